/-! the class: what splits do to the chains -/
theorem e_putP {y : xM} {d kc ks0 pc : Nat} {l : List (Nat × Value)} {st : List Value} {h : xH} {Q : List Value → xH → Prop} {idx k a : Nat} {ty : FieldType} {P : xP} {c' : Nat × Nat × Nat × Nat × Int32} {v v' : Value} (hd : decode y.2.1 pc = .ok (.putfield idx, 3)) (hF : x_Fd y.1.cls idx 1 k ty false) (hp : x_pg h a P) (hv : x_ok ty v') (e : v = v') (he : pgC a c' = .inr (1, ([.ref (a + 1), .ref (a + 2), .int (nI P.1.1), .int (nI P.1.2.1), .ref P.1.2.2.1, .ref P.1.2.2.2.1, .int P.1.2.2.2.2] : List Value).set k v')) (kk : x_E y d kc ks0 (pc + 3) l st (x_ps h a (c', P.2)) Q) : x_E y d kc ks0 pc l (v :: .ref a :: st) h Q := by
  subst e
  refine e_put hd hF hp.1 hv ?_
  refine e_heq ?_ kk
  unfold x_ps
  rw [x_up_id hp.2.1, x_up_id hp.2.2, he]
theorem nd_mk {ch : List (List Nat)} (h1 : ∀ (l : Nat) c, ch[l]? = some c → c.Nodup) (h2 : ∀ (l l' : Nat) c c' i, ch[l]? = some c → ch[l']? = some c' → i ∈ c → i ∈ c' → l = l') : ch.flatten.Nodup := by
  refine List.pairwise_flatten.mpr ⟨fun c hc => ?_, ?_⟩
  · obtain ⟨l, hl⟩ := List.getElem?_of_mem hc
    exact h1 l c hl
  · rw [List.pairwise_iff_getElem]
    intro i j hi hj hij x hx y hy e
    subst e
    have := h2 i j _ _ x (List.getElem?_eq_getElem hi) (List.getElem?_eq_getElem hj) hx hy
    omega
theorem nd_at {ch : List (List Nat)} (hnd : ch.flatten.Nodup) {l : Nat} {c : List Nat} (hc : ch[l]? = some c) : c.Nodup := (List.pairwise_flatten.mp hnd).1 _ (List.mem_of_getElem? hc)
theorem nd_pos {c : List Nat} (h : c.Nodup) {i k k' : Nat} (h1 : c[k]? = some i) (h2 : c[k']? = some i) : k = k' := by
  have a := List.getElem?_eq_some_iff.mp h1
  have b := List.getElem?_eq_some_iff.mp h2
  rw [List.Nodup, List.pairwise_iff_getElem] at h
  rcases Nat.lt_trichotomy k k' with z | z | z
  · exact absurd (a.2.trans b.2.symm) (h k k' a.1 b.1 z)
  · exact z
  · exact absurd (b.2.trans a.2.symm) (h k' k b.1 a.1 z)
theorem ch_at {ch : List (List Nat)} {l : Nat} {c c' : List Nat} (hc : ch[l]? = some c) (l' : Nat) : (ch.set l c')[l']? = if l' = l then some c' else ch[l']? := by
  have := (List.getElem?_eq_some_iff.mp hc).1
  rw [List.getElem?_set]
  by_cases e : l' = l
  · rw [if_pos e.symm, if_pos e, if_pos this]
  · rw [if_neg (fun q => e q.symm), if_neg e]
theorem ch_in (c1 c2 : List Nat) (i f k : Nat) : (c1 ++ i :: f :: c2)[k]? = if k < c1.length + 1 then (c1 ++ i :: c2)[k]? else if k = c1.length + 1 then some f else (c1 ++ i :: c2)[k - 1]? := by
  have e : c1 ++ i :: f :: c2 = insX (c1.length + 1) f (c1 ++ i :: c2) := by
    unfold insX
    have t : (c1 ++ i :: c2).take (c1.length + 1) = c1 ++ [i] := by
      rw [List.take_append, List.take_of_length_le (by omega), show c1.length + 1 - c1.length = 1 by omega]
      rfl
    have t2 : (c1 ++ i :: c2).drop (c1.length + 1) = c2 := by
      rw [List.drop_append, List.drop_eq_nil_of_le (by omega), show c1.length + 1 - c1.length = 1 by omega]
      rfl
    rw [t, t2]
    simp
  rw [e, insX_at (by simp)]
theorem CP_of {h h' : xH} {ch ch' : List (List Nat)} {D D' : cD} (F : List Nat) (hCP : CP h ch D) (en : ∀ a v, h.2 a = some (eC v) → h'.2 a = some (eC v)) (pn : ∀ b, x_pn h b → x_pn h' b) (hold : ∀ j, j < 60 → j ∉ F → ∀ P, x_pg h (pa j) P → x_pg h' (pa j) P) (hch : ∀ j, j < 60 → j ∉ F → ∀ (l : Nat) c (k : Nat), ch'[l]? = some c → c[k]? = some j → D' j = D j ∧ ∃ c0 k0, ch[l]? = some c0 ∧ c0[k0]? = some j ∧ nxA c k = nxA c0 k0) (hF : ∀ j ∈ F, j < 60 → ∃ P, CPi h' ch' D' j P) : CP h' ch' D' := by
  intro j hj
  by_cases e : j ∈ F
  · exact hF j e hj
  · obtain ⟨P, p1, p2, p3, p4⟩ := hCP j hj
    refine ⟨P, hold j hj e P p1, fun k hk => ?_, fun k hk => pn _ (p3 k hk), fun l c k hc hk => ?_⟩
    · obtain ⟨v, hv⟩ := p2 k hk
      exact ⟨v, en _ v hv⟩
    · obtain ⟨hD, c0, k0, z1, z2, z3⟩ := hch j hj e l c k hc hk
      obtain ⟨q1, q2, q3, q4, q5, q6, q7⟩ := p4 l c0 k0 z1 z2
      rw [hD, z3]
      exact ⟨q1, q2, en _ _ q3, q4, q5, fun k' v hv => en _ v (q6 k' v hv), q7⟩
section CS
variable {h : xH} {ch : List (List Nat)} {D : cD} {bd l i f : Nat} {c1 c2 : List Nat}
def spD (D : cD) (i f : Nat) (o : Bool) : cD := Du (Du D f ((D i).2.2.1.getD 5 lowE, false, (D i).2.2.1.drop 5, ((D i).2.2.2.drop 5).take 5)) i ((D i).1, o, (D i).2.2.1.take 5, (D i).2.2.2.take 5)
def spC (ch : List (List Nat)) (l : Nat) (c1 : List Nat) (i f : Nat) (c2 : List Nat) : List (List Nat) := ch.set l (c1 ++ i :: f :: c2)
theorem spD_i (o : Bool) : spD D i f o i = ((D i).1, o, (D i).2.2.1.take 5, (D i).2.2.2.take 5) := Du_s _ _ _
theorem spD_f (o : Bool) (hne : f ≠ i) : spD D i f o f = ((D i).2.2.1.getD 5 lowE, false, (D i).2.2.1.drop 5, ((D i).2.2.2.drop 5).take 5) := (Du_n hne).trans (Du_s _ _ _)
theorem spD_n (o : Bool) {j : Nat} (h1 : j ≠ i) (h2 : j ≠ f) : spD D i f o j = D j := (Du_n h1).trans (Du_n h2)
theorem spD_low (o : Bool) {j : Nat} (h2 : j ≠ f) : (spD D i f o j).1 = (D j).1 := by
  by_cases e : j = i
  · rw [e, spD_i]
  · rw [spD_n o e h2]
theorem in5 (hl : (D i).2.2.1.length = 10) : (D i).2.2.1[5]? = some ((D i).2.2.1.getD 5 lowE) := by
  rw [List.getD_eq_getElem?_getD, List.getElem?_eq_getElem (by omega)]
  rfl
theorem CP_split (o : Bool) {P Pf : xP} (hCP : CP h ch D) (hnd : ch.flatten.Nodup) (hc : ch[l]? = some (c1 ++ i :: c2)) (hi : i < 60) (hf : f < 60) (hfn : ∀ (l' : Nat) c, ch[l']? = some c → f ∉ c) (hsz : (D i).2.2.1.length = 10) (hp : CPi h ch D i P) (hpf : CPi h ch D f Pf) :
    CP (x_ps (x_ps h (pa f) ((5, l, P.2.1 5, P.1.2.2.2.1, 0), cpy Pf.2.1 P.2.1 5 5, cpy Pf.2.2 P.2.2 5 5)) (pa i) ((5, P.1.2.1, P.1.2.2.1, pa f, bI o), P.2)) (spC ch l c1 i f c2) (spD D i f o) := by
  have him : i ∈ c1 ++ i :: c2 := List.mem_append_right _ List.mem_cons_self
  have hne : f ≠ i := fun e => hfn l _ hc (e ▸ him)
  have hpos : (c1 ++ i :: c2)[c1.length]? = some i := by rw [List.getElem?_append_right (Nat.le_refl _), Nat.sub_self]; rfl
  obtain ⟨p1, p2, p3, p4⟩ := hp
  obtain ⟨q1, q2, q3, q4, q5, q6, q7⟩ := p4 l _ _ hc hpos
  obtain ⟨g1, g2, g3, -⟩ := hpf
  have p1' : x_pg (x_ps h (pa f) ((5, l, P.2.1 5, P.1.2.2.2.1, 0), cpy Pf.2.1 P.2.1 5 5, cpy Pf.2.2 P.2.2 5 5)) (pa i) P := x_pg_ps g1 p1 (fun z => hne (pa_inj z).symm)
  have en : ∀ a v, h.2 a = some (eC v) → (x_ps (x_ps h (pa f) ((5, l, P.2.1 5, P.1.2.2.2.1, 0), cpy Pf.2.1 P.2.1 5 5, cpy Pf.2.2 P.2.2 5 5)) (pa i) ((5, P.1.2.1, P.1.2.2.1, pa f, bI o), P.2)).2 a = some (eC v) := fun a v ha => x_en_ps p1' (x_en_ps g1 ha)
  have pn : ∀ b, x_pn h b → x_pn (x_ps (x_ps h (pa f) ((5, l, P.2.1 5, P.1.2.2.2.1, 0), cpy Pf.2.1 P.2.1 5 5, cpy Pf.2.2 P.2.2 5 5)) (pa i) ((5, P.1.2.1, P.1.2.2.1, pa f, bI o), P.2)) b := fun b hb => x_pn_ps p1' (x_pn_ps g1 hb)
  have hcn := nd_at hnd hc
  have h5 := in5 hsz
  refine CP_of [i, f] hCP en pn (fun j hj hn R hR => x_pg_ps p1' (x_pg_ps g1 hR (fun z => hn (by rw [pa_inj z]; simp))) (fun z => hn (by rw [pa_inj z]; simp))) ?_ ?_
  · intro j hj hn l' c k hc' hk
    have n1 : j ≠ i := fun z => hn (by rw [z]; simp)
    have n2 : j ≠ f := fun z => hn (by rw [z]; simp)
    refine ⟨spD_n o n1 n2, ?_⟩
    unfold spC at hc'
    rw [ch_at hc] at hc'
    by_cases e : l' = l
    · rw [if_pos e] at hc'
      subst e
      have ec := Option.some.inj hc'
      subst ec
      have hk0 := hk
      rw [ch_in] at hk
      by_cases k1 : k < c1.length + 1
      · rw [if_pos k1] at hk
        have kn : k ≠ c1.length := fun z => n1 (by rw [z, hpos] at hk; exact (Option.some.inj hk).symm)
        refine ⟨_, k, hc, hk, ?_⟩
        unfold nxA
        rw [ch_in, if_pos (by omega)]
      · rw [if_neg k1] at hk
        by_cases k2 : k = c1.length + 1
        · rw [if_pos k2] at hk
          exact absurd (Option.some.inj hk).symm n2
        · rw [if_neg k2] at hk
          refine ⟨_, k - 1, hc, hk, ?_⟩
          unfold nxA
          rw [ch_in, if_neg (by omega), if_neg (by omega), show k + 1 - 1 = k - 1 + 1 by omega]
    · rw [if_neg e] at hc'
      exact ⟨c, k, hc', hk, rfl⟩
  · intro j hj hj60
    by_cases e : j = i
    · subst e
      refine ⟨_, x_ps_pg _ _ _, fun k hk => ?_, fun k hk => pn _ (p3 k hk), fun l' c k hc' hk => ?_⟩
      · obtain ⟨v, hv⟩ := p2 k hk
        exact ⟨v, en _ v hv⟩
      · unfold spC at hc'
        rw [ch_at hc] at hc'
        by_cases e : l' = l
        · rw [if_pos e] at hc'
          subst e
          have ec := Option.some.inj hc'
          subst ec
          have hk0 : k = c1.length := by
            rw [ch_in] at hk
            by_cases k1 : k < c1.length + 1
            · rw [if_pos k1] at hk
              exact nd_pos hcn hk hpos
            · rw [if_neg k1] at hk
              by_cases k2 : k = c1.length + 1
              · rw [if_pos k2] at hk
                exact absurd (Option.some.inj hk) hne
              · rw [if_neg k2] at hk
                have := nd_pos hcn hk hpos
                omega
          subst hk0
          rw [spD_i]
          refine ⟨by show 5 = ((D j).2.2.1.take 5).length; rw [List.length_take]; omega, q2, en _ _ q3, ?_, rfl, fun k' v hv => ?_, fun k' b hb => ?_⟩
          · show pa f = nxA _ _
            unfold nxA
            rw [ch_in, if_neg (by omega), if_pos rfl]
          · have hv : ((D j).2.2.1.take 5)[k']? = some v := hv
            rw [List.getElem?_take] at hv
            split at hv
            · exact en _ v (q6 k' v hv)
            · cases hv
          · have hb : ((D j).2.2.2.take 5)[k']? = some b := hb
            rw [List.getElem?_take] at hb
            split at hb
            · exact q7 k' b hb
            · cases hb
        · rw [if_neg e] at hc'
          exact absurd (nd_other hnd hc' hc (List.mem_of_getElem? hk) him) e
    · have ef : j = f := by
        rcases List.mem_cons.mp hj with z | z
        · exact absurd z e
        · exact List.mem_singleton.mp z
      subst ef
      refine ⟨((5, l, P.2.1 5, P.1.2.2.2.1, 0), cpy Pf.2.1 P.2.1 5 5, cpy Pf.2.2 P.2.2 5 5), x_pg_ps p1' (x_ps_pg _ _ _) (fun z => e (pa_inj z)), fun k hk => ?_, fun k hk => pn _ ?_, fun l' c k hc' hk => ?_⟩
      · show ∃ v, _ = some (eC v)
        simp only [cpy]
        split
        · obtain ⟨v, hv⟩ := p2 (5 + k) (by omega)
          exact ⟨v, en _ v hv⟩
        · obtain ⟨v, hv⟩ := g2 k hk
          exact ⟨v, en _ v hv⟩
      · show x_pn h (cpy Pf.2.2 P.2.2 5 5 k)
        unfold cpy
        split
        · exact p3 (5 + k) (by omega)
        · exact g3 k hk
      · unfold spC at hc'
        rw [ch_at hc] at hc'
        by_cases e' : l' = l
        · rw [if_pos e'] at hc'
          subst e'
          have ec := Option.some.inj hc'
          subst ec
          have hk0 : k = c1.length + 1 := by
            rw [ch_in] at hk
            by_cases k1 : k < c1.length + 1
            · rw [if_pos k1] at hk
              exact absurd (List.mem_of_getElem? hk) (hfn _ _ hc)
            · rw [if_neg k1] at hk
              by_cases k2 : k = c1.length + 1
              · exact k2
              · rw [if_neg k2] at hk
                exact absurd (List.mem_of_getElem? hk) (hfn _ _ hc)
          subst hk0
          rw [spD_f o hne]
          refine ⟨by show 5 = ((D i).2.2.1.drop 5).length; rw [List.length_drop]; omega, rfl, en _ _ (q6 5 _ h5), ?_, rfl, fun k' v hv => ?_, fun k' b hb => ?_⟩
          · show P.1.2.2.2.1 = nxA _ _
            rw [q4]
            unfold nxA
            rw [ch_in, if_neg (by omega), if_neg (by omega)]
            rfl
          · have hv : ((D i).2.2.1.drop 5)[k']? = some v := hv
            rw [List.getElem?_drop] at hv
            have := (List.getElem?_eq_some_iff.mp hv).1
            have e3 : cpy Pf.2.1 P.2.1 5 5 k' = P.2.1 (5 + k') := by unfold cpy; rw [if_pos (by omega)]
            show _ = _
            refine en _ v ?_
            show h.2 (cpy Pf.2.1 P.2.1 5 5 k') = _
            rw [e3]
            exact q6 _ v hv
          · have hb : (((D i).2.2.2.drop 5).take 5)[k']? = some b := hb
            rw [List.getElem?_take] at hb
            show cpy Pf.2.2 P.2.2 5 5 k' = pa b
            split at hb
            · rename_i k5
              rw [List.getElem?_drop] at hb
              unfold cpy
              rw [if_pos k5]
              exact q7 _ b hb
            · cases hb
        · rw [if_neg e'] at hc'
          exact absurd (List.mem_of_getElem? hk) (hfn _ _ hc')
theorem gd5 (hsz : (D i).2.2.1.length = 10) : (pgS D i).2.2.getD 5 0 = sk ((D i).2.2.1.getD 5 lowE) := by
  have h5 := in5 hsz
  show ((D i).2.2.1.map sk).getD 5 0 = _
  rw [List.getD_eq_getElem?_getD, List.getElem?_map, h5, Option.map_some, Option.getD_some]
theorem trS_split (o : Bool) (hnd : ch.flatten.Nodup) (hc : ch[l]? = some (c1 ++ i :: c2)) (hfn : ∀ (l' : Nat) c, ch[l']? = some c → f ∉ c) (hsz : (D i).2.2.1.length = 10) : trS (spC ch l c1 i f c2) (spD D i f o) = sSet (trS ch D) l (c1.map (pgS D)) [gL (pgS D i) o, gR (pgS D i)] (c2.map (pgS D)) := by
  have him : i ∈ c1 ++ i :: c2 := List.mem_append_right _ List.mem_cons_self
  have hne : f ≠ i := fun e => hfn l _ hc (e ▸ him)
  have hl := ci_at (D := D) hc
  obtain ⟨n1, n2⟩ := nd_in hnd hc
  have mp : ∀ c : List Nat, i ∉ c → f ∉ c → c.map (pgS (spD D i f o)) = c.map (pgS D) := fun c a b => (map_Du a).trans (map_Du b)
  have f1 : f ∉ c1 := fun z => hfn l _ hc (List.mem_append_left _ z)
  have f2 : f ∉ c2 := fun z => hfn l _ hc (List.mem_append_right _ (List.mem_cons_of_mem _ z))
  have ei : pgS (spD D i f o) i = gL (pgS D i) o := by
    unfold gL pgS
    rw [spD_i]
    simp only [List.map_take]
  have ef : pgS (spD D i f o) f = gR (pgS D i) := by
    unfold gR
    rw [gd5 hsz]
    unfold pgS
    rw [spD_f o hne]
    simp only [List.map_drop]
  refine List.ext_getElem? fun l' => ?_
  have hat := ch_at (c' := c1 ++ i :: f :: c2) hc l'
  by_cases e : l' = l
  · subst e
    rw [if_pos rfl] at hat
    rw [ss_at hl, trS_at (show (spC ch l' c1 i f c2)[l']? = some _ from hat), List.map_append, List.map_cons, List.map_cons, mp c1 n1 f1, mp c2 n2 f2, ei, ef]
    rfl
  · rw [if_neg e] at hat
    rw [ss_ne e]
    cases hc' : ch[l']? with
    | none =>
      rw [hc'] at hat
      have hat : (spC ch l c1 i f c2)[l']? = none := hat
      simp [trS, hc', hat]
    | some c' =>
      rw [hc'] at hat
      rw [trS_at (show (spC ch l c1 i f c2)[l']? = some _ from hat), trS_at hc']
      rw [mp c' (fun z => e (nd_other hnd hc' hc z him)) (hfn l' c' hc')]
theorem CI_split (o : Bool) (hI : CI ch D f) (hf : f < 60) (hc : ch[l]? = some (c1 ++ i :: c2)) (hsz : (D i).2.2.1.length = 10) (hnt : l + 1 < ch.length) : CI (spC ch l c1 i f c2) (spD D i f o) (f + 1) := by
  have hfn : ∀ (l' : Nat) c, ch[l']? = some c → f ∉ c := fun l' c hc' z => absurd (hI.2.2.2.1 l' c hc' f z) (by omega)
  have him : i ∈ c1 ++ i :: c2 := List.mem_append_right _ List.mem_cons_self
  have hne : f ≠ i := fun e => hfn l _ hc (e ▸ him)
  have hT := trS_split (D := D) o hI.2.2.1 hc hfn hsz
  obtain ⟨t1, t2, t3, t4, t5, t6, t7, t8⟩ := hI
  have h5 := in5 hsz
  have at' : ∀ (l' : Nat) c, (spC ch l c1 i f c2)[l']? = some c → (l' = l ∧ c = c1 ++ i :: f :: c2) ∨ (l' ≠ l ∧ ch[l']? = some c) := fun l' c hc' => by
    unfold spC at hc'
    rw [ch_at hc] at hc'
    by_cases e : l' = l
    · rw [if_pos e] at hc'
      exact Or.inl ⟨e, (Option.some.inj hc').symm⟩
    · rw [if_neg e] at hc'
      exact Or.inr ⟨e, hc'⟩
  -- every page of the new chains: the fresh one, or an old one of the same level
  have old : ∀ (l' : Nat) c j, (spC ch l c1 i f c2)[l']? = some c → j ∈ c → (l' = l ∧ j = f) ∨ (j ≠ f ∧ ∃ c0, ch[l']? = some c0 ∧ j ∈ c0) := fun l' c j hc' hj => by
    rcases at' l' c hc' with ⟨rfl, rfl⟩ | ⟨e, z⟩
    · rcases List.mem_append.mp hj with z | z
      · have hm : j ∈ c1 ++ i :: c2 := List.mem_append_left _ z
        exact Or.inr ⟨fun e => hfn _ _ hc (e ▸ hm), _, hc, hm⟩
      · rcases List.mem_cons.mp z with z | z
        · have hm : j ∈ c1 ++ i :: c2 := by rw [z]; exact him
          exact Or.inr ⟨fun e => hfn _ _ hc (e ▸ hm), _, hc, hm⟩
        · rcases List.mem_cons.mp z with z | z
          · exact Or.inl ⟨rfl, z⟩
          · have hm : j ∈ c1 ++ i :: c2 := List.mem_append_right _ (List.mem_cons_of_mem _ z)
            exact Or.inr ⟨fun e => hfn _ _ hc (e ▸ hm), _, hc, hm⟩
    · exact Or.inr ⟨fun e => hfn _ _ z (e ▸ hj), c, z, hj⟩
  have new : ∀ (l' : Nat) c j, ch[l']? = some c → j ∈ c → ∃ c', (spC ch l c1 i f c2)[l']? = some c' ∧ j ∈ c' := fun l' c j hc' hj => by
    unfold spC
    rw [ch_at hc]
    by_cases e : l' = l
    · rw [if_pos e]
      refine ⟨_, rfl, ?_⟩
      subst e
      rw [hc] at hc'
      have ec := Option.some.inj hc'
      subst ec
      rcases List.mem_append.mp hj with z | z
      · exact List.mem_append_left _ z
      · rcases List.mem_cons.mp z with z | z
        · rw [z]; exact List.mem_append_right _ List.mem_cons_self
        · exact List.mem_append_right _ (List.mem_cons_of_mem _ (List.mem_cons_of_mem _ z))
    · rw [if_neg e]
      exact ⟨c, hc', hj⟩
  have okI := t6 l _ hc i him
  refine ⟨?_, ?_, ?_, ?_, by omega, ?_, ?_, ?_⟩
  · rw [hT]
    exact trK_split o t1 (ci_at hc) (by simpa [pgS] using hsz) (by rw [trS_len]; exact hnt)
  · obtain ⟨n, hn, hr⟩ := t2
    refine ⟨n, by unfold spC; rw [List.length_set]; exact hn, ?_⟩
    unfold spC
    rw [ch_at hc, if_neg (by omega)]
    exact hr
  · refine nd_mk (fun l' c hc' => ?_) (fun l' l'' c c' j hc' hc'' hj hj' => ?_)
    · rcases at' l' c hc' with ⟨rfl, rfl⟩ | ⟨e, z⟩
      · have hn := nd_at t3 hc
        have hp : (c1 ++ i :: f :: c2).Perm (f :: (c1 ++ i :: c2)) := by
          have : c1 ++ i :: f :: c2 = (c1 ++ [i]) ++ f :: c2 := by simp
          rw [this]
          refine List.perm_middle.trans ?_
          simp
        exact hp.nodup_iff.mpr (List.nodup_cons.mpr ⟨hfn _ _ hc, hn⟩)
      · exact nd_at t3 z
    · rcases old _ _ _ hc' hj with ⟨a1, a2⟩ | ⟨a1, c0, a2, a3⟩
      · rcases old _ _ _ hc'' hj' with ⟨b1, b2⟩ | ⟨b1, c0, b2, b3⟩
        · rw [a1, b1]
        · exact absurd a2 b1
      · rcases old _ _ _ hc'' hj' with ⟨b1, b2⟩ | ⟨b1, c0', b2, b3⟩
        · exact absurd b2 a1
        · exact nd_other t3 a2 b2 a3 b3
  · intro l' c hc' j hj
    rcases old _ _ _ hc' hj with ⟨a1, a2⟩ | ⟨a1, c0, a2, a3⟩
    · omega
    · have := t4 _ _ a2 j a3
      omega
  · intro l' c hc' j hj
    rcases old _ _ _ hc' hj with ⟨a1, a2⟩ | ⟨a1, c0, a2, a3⟩
    · rw [a2, spD_f o hne]
      exact ⟨okI.2 _ (List.mem_of_getElem? h5), fun x hx => okI.2 x (List.mem_of_mem_drop hx)⟩
    · by_cases e : j = i
      · rw [e, spD_i]
        exact ⟨okI.1, fun x hx => okI.2 x (List.mem_of_mem_take hx)⟩
      · rw [spD_n o e a1]
        exact t6 _ _ a2 j a3
  · intro l' c hc' j hj
    -- a page below keeps its low
    have lo : ∀ (b : Nat) (x : xE), (∃ c', ch[l']? = some c' ∧ b ∈ c' ∧ sk (D b).1 = sk x) → ∃ c', (spC ch l c1 i f c2)[l']? = some c' ∧ b ∈ c' ∧ sk (spD D i f o b).1 = sk x := fun b x ⟨c', z1, z2, z3⟩ => by
      obtain ⟨c'', y1, y2⟩ := new l' c' b z1 z2
      exact ⟨c'', y1, y2, by rw [spD_low o (fun e : b = f => hfn _ _ z1 (e ▸ z2))]; exact z3⟩
    rcases old _ _ _ hc' hj with ⟨a1, a2⟩ | ⟨a1, c0, a2, a3⟩
    · have hc0 := hc
      rw [← a1] at hc0
      obtain ⟨m1, m2⟩ := t7 l' _ hc0 i him
      rw [a2, spD_f o hne]
      refine ⟨by simp only [List.length_take, List.length_drop]; omega, fun k b x hx hb => lo b x ?_⟩
      have hx : ((D i).2.2.1.drop 5)[k]? = some x := hx
      have hb : (((D i).2.2.2.drop 5).take 5)[k]? = some b := hb
      rw [List.getElem?_drop] at hx
      rw [List.getElem?_take] at hb
      split at hb
      · rw [List.getElem?_drop] at hb
        exact m2 _ b x hx hb
      · cases hb
    · obtain ⟨m1, m2⟩ := t7 l' _ a2 j a3
      by_cases e : j = i
      · subst e
        rw [spD_i]
        refine ⟨by simp only [List.length_take]; omega, fun k b x hx hb => lo b x ?_⟩
        have hx : ((D j).2.2.1.take 5)[k]? = some x := hx
        have hb : ((D j).2.2.2.take 5)[k]? = some b := hb
        rw [List.getElem?_take] at hx hb
        split at hb
        · rename_i k5
          rw [if_pos k5] at hx
          exact m2 _ b x hx hb
        · cases hb
      · rw [spD_n o e a1]
        exact ⟨m1, fun k b x hx hb => lo b x (m2 k b x hx hb)⟩
  · intro c hc' j hj x hx
    rcases old _ _ _ hc' hj with ⟨a1, a2⟩ | ⟨a1, c0, a2, a3⟩
    · have hc0 := hc
      rw [← a1] at hc0
      rw [a2, spD_f o hne] at hx
      exact t8 _ hc0 i him x (List.mem_of_mem_drop hx)
    · by_cases e : j = i
      · subst e
        rw [spD_i] at hx
        exact t8 _ a2 j a3 x (List.mem_of_mem_take hx)
      · rw [spD_n o e a1] at hx
        exact t8 _ a2 j a3 x hx
end CS
