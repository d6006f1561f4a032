/-! the class: splitRoot -/
def roC (ch : List (List Nat)) (n f : Nat) : List (List Nat) := ch.set n [f, f + 1] ++ [[0]]
def roD (D : cD) (f : Nat) : cD := Du (Du (Du D f (lowE, false, (D 0).2.2.1.take 5, (D 0).2.2.2.take 5)) (f + 1) ((D 0).2.2.1.getD 5 lowE, false, (D 0).2.2.1.drop 5, ((D 0).2.2.2.drop 5).take 5)) 0 (lowE, false, [lowE, (D 0).2.2.1.getD 5 lowE], [f, f + 1])
section CR
variable {h : xH} {ch : List (List Nat)} {D : cD} {tk fu n : Nat} {q : qW} {ca : Nat} {cb : Bool} {ha : Nat}
theorem roD_0 {f : Nat} : roD D f 0 = (lowE, false, [lowE, (D 0).2.2.1.getD 5 lowE], [f, f + 1]) := Du_s _ _ _
theorem roD_r {f : Nat} : roD D f (f + 1) = ((D 0).2.2.1.getD 5 lowE, false, (D 0).2.2.1.drop 5, ((D 0).2.2.2.drop 5).take 5) := (Du_n (by omega)).trans (Du_s _ _ _)
theorem roD_l {f : Nat} (h0 : f ≠ 0) : roD D f f = (lowE, false, (D 0).2.2.1.take 5, (D 0).2.2.2.take 5) := (Du_n h0).trans ((Du_n (by omega)).trans (Du_s _ _ _))
theorem roD_n {f j : Nat} (h0 : j ≠ 0) (h1 : j ≠ f) (h2 : j ≠ f + 1) : roD D f j = D j := (Du_n h0).trans ((Du_n h2).trans (Du_n h1))
theorem roC_at {f : Nat} (hn : ch.length = n + 1) {l : Nat} {c : List Nat} (hc : (roC ch n f)[l]? = some c) : (l < n ∧ ch[l]? = some c) ∨ (l = n ∧ c = [f, f + 1]) ∨ (l = n + 1 ∧ c = [0]) := by
  unfold roC at hc
  rcases Nat.lt_or_ge l (n + 1) with z | z
  · rw [List.getElem?_append_left (by rw [List.length_set]; omega), List.getElem?_set] at hc
    by_cases e : n = l
    · rw [if_pos e, if_pos (by omega)] at hc
      exact Or.inr (Or.inl ⟨e.symm, (Option.some.inj hc).symm⟩)
    · rw [if_neg e] at hc
      exact Or.inl ⟨by omega, hc⟩
  · rw [List.getElem?_append_right (by rw [List.length_set]; omega), List.length_set, hn] at hc
    rcases Nat.lt_or_ge (n + 1) l with y | y
    · obtain ⟨m, hm⟩ : ∃ m, l - (n + 1) = m + 1 := ⟨l - (n + 1) - 1, by omega⟩
      rw [hm] at hc
      cases hc
    · have : l = n + 1 := by omega
      rw [this, Nat.sub_self] at hc
      exact Or.inr (Or.inr ⟨this, (Option.some.inj hc).symm⟩)
theorem roC_lo {f : Nat} (hn : ch.length = n + 1) {l : Nat} (hl : l < n) : (roC ch n f)[l]? = ch[l]? := by
  unfold roC
  rw [List.getElem?_append_left (by rw [List.length_set]; omega), List.getElem?_set, if_neg (by omega)]
theorem roC_n {f : Nat} (hn : ch.length = n + 1) : (roC ch n f)[n]? = some [f, f + 1] := by
  unfold roC
  rw [List.getElem?_append_left (by rw [List.length_set]; omega), List.getElem?_set, if_pos rfl, if_pos (by omega)]
theorem roC_t {f : Nat} (hn : ch.length = n + 1) : (roC ch n f)[n + 1]? = some [0] := by
  unfold roC
  rw [List.getElem?_append_right (by rw [List.length_set]; omega), List.length_set, hn, Nat.sub_self]
  rfl
theorem CI.root_low (hI : CI ch D tk) (hr : ch[n]? = some [0]) : (D 0).1 = lowE := by
  have hk := hI.1.1 n _ (trS_at hr)
  obtain ⟨p, t', ep, hp0⟩ := hk.1
  have : pgS D 0 = p := by simpa using (List.cons.inj ep).1
  have h0 : sk (D 0).1 = 0 := by rw [← this] at hp0; exact hp0
  exact sk_inj (hI.2.2.2.2.2.1 n _ hr 0 List.mem_cons_self).1 ok_low (by rw [h0, sk_low])
theorem trS_root (hI : CI ch D fu) (hn : ch.length = n + 1) (hr : ch[n]? = some [0]) (hsz : (D 0).2.2.1.length = 10) (h0 : fu ≠ 0) : trS (roC ch n fu) (roD D fu) = sRoot (trS ch D) n (pgS D 0) := by
  have hfn : ∀ (l' : Nat) c, ch[l']? = some c → ∀ j ∈ c, j ≠ fu ∧ j ≠ fu + 1 := fun l' c hc' j hj => by have := hI.2.2.2.1 l' c hc' j hj; omega
  have hl : (trS ch D)[n]? = some ([] ++ pgS D 0 :: []) := trS_at hr
  have e0 : pgS (roD D fu) 0 = (0, false, [0, (pgS D 0).2.2.getD 5 0]) := by
    rw [gd5 hsz]
    unfold pgS
    rw [roD_0]
    simp only [List.map_cons, List.map_nil, sk_low]
  have el : pgS (roD D fu) fu = gL (pgS D 0) false := by
    unfold gL pgS
    rw [roD_l h0, hI.root_low hr]
    simp only [List.map_take]
  have er : pgS (roD D fu) (fu + 1) = gR (pgS D 0) := by
    unfold gR
    rw [gd5 hsz]
    unfold pgS
    rw [roD_r]
    simp only [List.map_drop]
  unfold sRoot
  refine List.ext_getElem? fun l' => ?_
  rcases Nat.lt_trichotomy l' n with z | z | z
  · rw [List.getElem?_append_left (by rw [ss_len, trS_len]; omega), ss_ne (by omega)]
    cases hc' : ch[l']? with
    | none => simp [trS, hc', roC_lo hn z]
    | some c' =>
      rw [trS_at ((roC_lo hn z).trans hc'), trS_at hc']
      refine congrArg some (List.map_congr_left fun j hj => ?_)
      have hj0 : j ≠ 0 := fun e => by
        have := (root_only hI hc').mp (e ▸ hj)
        omega
      obtain ⟨b1, b2⟩ := hfn _ _ hc' j hj
      unfold pgS
      rw [roD_n hj0 b1 b2]
  · subst z
    rw [List.getElem?_append_left (by rw [ss_len, trS_len]; omega), ss_at hl, trS_at (roC_n hn)]
    simp only [List.map_cons, List.map_nil, el, er]
    rfl
  · rcases Nat.lt_or_ge (n + 1) l' with y | y
    · rw [List.getElem?_eq_none, List.getElem?_eq_none]
      · rw [List.length_append, ss_len, trS_len]; simp; omega
      · rw [trS_len]; unfold roC; rw [List.length_append, List.length_set]; simp; omega
    · have : l' = n + 1 := by omega
      subst this
      rw [trS_at (roC_t hn), List.getElem?_append_right (by rw [ss_len, trS_len]; omega), ss_len, trS_len, hn, Nat.sub_self]
      simp only [List.map_cons, List.map_nil, e0]
      rfl
theorem CI_root (hI : CI ch D fu) (hf : fu + 2 ≤ 60) (hn : ch.length = n + 1) (hr : ch[n]? = some [0]) (hsz : (D 0).2.2.1.length = 10) : CI (roC ch n fu) (roD D fu) (fu + 2) := by
  have h00 : 0 < fu := hI.2.2.2.1 n _ hr 0 List.mem_cons_self
  have h0 : fu ≠ 0 := by omega
  have hT := trS_root hI hn hr hsz h0
  have hlow := hI.root_low hr
  have hrt : ∀ (l' : Nat) c, ch[l']? = some c → l' < n → ∀ j ∈ c, j ≠ 0 := fun l' c hc' hl' j hj e => by
    have := (root_only hI hc').mp (e ▸ hj)
    omega
  obtain ⟨t1, t2, t3, t4, t5, t6, t7, t8⟩ := hI
  have h5 := in5 hsz
  have okI := t6 n _ hr 0 List.mem_cons_self
  refine ⟨?_, ⟨n + 1, ?_, roC_t hn⟩, ?_, ?_, by omega, ?_, ?_, ?_⟩
  · rw [hT]
    exact trK_root t1 (trS_at hr) (by rw [trS_len]; omega) (by simpa [pgS] using hsz)
  · unfold roC; rw [List.length_append, List.length_set, hn]; rfl
  · refine nd_mk (fun l' c hc' => ?_) (fun l' l'' c c' j hc' hc'' hj hj' => ?_)
    · rcases roC_at hn hc' with ⟨-, z⟩ | ⟨-, z⟩ | ⟨-, z⟩
      · exact nd_at t3 z
      · rw [z]; simp
      · rw [z]; simp
    · have key : ∀ (l' : Nat) c, (roC ch n fu)[l']? = some c → j ∈ c → (j < fu ∧ j ≠ 0 ∧ ∃ c0, ch[l']? = some c0 ∧ j ∈ c0) ∨ (fu ≤ j ∧ l' = n) ∨ (j = 0 ∧ l' = n + 1) := fun l' c hc' hj => by
        rcases roC_at hn hc' with ⟨z1, z⟩ | ⟨z1, z⟩ | ⟨z1, z⟩
        · exact Or.inl ⟨t4 _ _ z j hj, hrt _ _ z z1 j hj, c, z, hj⟩
        · rw [z] at hj
          refine Or.inr (Or.inl ⟨?_, z1⟩)
          rcases List.mem_cons.mp hj with y | y
          · omega
          · have := List.mem_singleton.mp y; omega
        · rw [z] at hj
          exact Or.inr (Or.inr ⟨List.mem_singleton.mp hj, z1⟩)
      rcases key _ _ hc' hj with ⟨a1, a2, c0, a3, a4⟩ | ⟨a1, a2⟩ | ⟨a1, a2⟩
      · rcases key _ _ hc'' hj' with ⟨b1, b2, c0', b3, b4⟩ | ⟨b1, b2⟩ | ⟨b1, b2⟩
        · exact nd_other t3 a3 b3 a4 b4
        · omega
        · omega
      · rcases key _ _ hc'' hj' with ⟨b1, b2, c0', b3, b4⟩ | ⟨b1, b2⟩ | ⟨b1, b2⟩ <;> omega
      · rcases key _ _ hc'' hj' with ⟨b1, b2, c0', b3, b4⟩ | ⟨b1, b2⟩ | ⟨b1, b2⟩ <;> omega
  · intro l' c hc' j hj
    rcases roC_at hn hc' with ⟨z1, z⟩ | ⟨z1, z⟩ | ⟨z1, z⟩
    · have := t4 _ _ z j hj; omega
    · rw [z] at hj
      rcases List.mem_cons.mp hj with y | y
      · omega
      · have := List.mem_singleton.mp y; omega
    · rw [z] at hj
      have := List.mem_singleton.mp hj; omega
  · intro l' c hc' j hj
    rcases roC_at hn hc' with ⟨z1, z⟩ | ⟨z1, z⟩ | ⟨z1, z⟩
    · have b := t4 _ _ z j hj
      rw [roD_n (hrt _ _ z z1 j hj) (by omega) (by omega)]
      exact t6 _ _ z j hj
    · rw [z] at hj
      rcases List.mem_cons.mp hj with y | y
      · rw [y, roD_l h0]
        exact ⟨ok_low, fun x hx => okI.2 x (List.mem_of_mem_take hx)⟩
      · rw [List.mem_singleton.mp y, roD_r]
        exact ⟨okI.2 _ (List.mem_of_getElem? h5), fun x hx => okI.2 x (List.mem_of_mem_drop hx)⟩
    · rw [z] at hj
      rw [List.mem_singleton.mp hj, roD_0]
      refine ⟨ok_low, fun x hx => ?_⟩
      have hx : x ∈ [lowE, (D 0).2.2.1.getD 5 lowE] := hx
      rcases List.mem_cons.mp hx with y | y
      · rw [y]; exact ok_low
      · rw [List.mem_singleton.mp y]; exact okI.2 _ (List.mem_of_getElem? h5)
  · intro l' c hc' j hj
    -- a page below keeps its low
    have lo : ∀ (b : Nat) (x : xE), l' < n → (∃ c', ch[l']? = some c' ∧ b ∈ c' ∧ sk (D b).1 = sk x) → ∃ c', (roC ch n fu)[l']? = some c' ∧ b ∈ c' ∧ sk (roD D fu b).1 = sk x := fun b x hl' ⟨c', z1, z2, z3⟩ => by
      have b1 := t4 _ _ z1 b z2
      exact ⟨c', (roC_lo hn hl').trans z1, z2, by rw [roD_n (hrt _ _ z1 hl' b z2) (by omega) (by omega)]; exact z3⟩
    rcases roC_at hn hc' with ⟨z1, z⟩ | ⟨z1, z⟩ | ⟨z1, z⟩
    · have b1 := t4 _ _ z j hj
      obtain ⟨m1, m2⟩ := t7 l' _ z j hj
      rw [roD_n (hrt _ _ z z1 j hj) (by omega) (by omega)]
      exact ⟨m1, fun k b x hx hb => lo b x (by omega) (m2 k b x hx hb)⟩
    · have hr' := hr
      rw [← z1] at hr'
      obtain ⟨m1, m2⟩ := t7 l' _ hr' 0 List.mem_cons_self
      rw [z] at hj
      rcases List.mem_cons.mp hj with y | y
      · rw [y, roD_l h0]
        refine ⟨by simp only [List.length_take]; omega, fun k b x hx hb => lo b x (by omega) ?_⟩
        have hx : ((D 0).2.2.1.take 5)[k]? = some x := hx
        have hb : ((D 0).2.2.2.take 5)[k]? = some b := hb
        rw [List.getElem?_take] at hx hb
        split at hb
        · rename_i k5
          rw [if_pos k5] at hx
          exact m2 _ b x hx hb
        · cases hb
      · rw [List.mem_singleton.mp y, roD_r]
        refine ⟨by simp only [List.length_take, List.length_drop]; omega, fun k b x hx hb => lo b x (by omega) ?_⟩
        have hx : ((D 0).2.2.1.drop 5)[k]? = some x := hx
        have hb : (((D 0).2.2.2.drop 5).take 5)[k]? = some b := hb
        rw [List.getElem?_drop] at hx
        rw [List.getElem?_take] at hb
        split at hb
        · rw [List.getElem?_drop] at hb
          exact m2 _ b x hx hb
        · cases hb
    · have : l' = n := by omega
      subst this
      rw [z] at hj
      rw [List.mem_singleton.mp hj, roD_0]
      refine ⟨rfl, fun k b x hx hb => ⟨_, roC_n hn, ?_⟩⟩
      have hx : [lowE, (D 0).2.2.1.getD 5 lowE][k]? = some x := hx
      have hb : [fu, fu + 1][k]? = some b := hb
      match k, hx, hb with
      | 0, hx, hb =>
        have e1 : lowE = x := Option.some.inj hx
        have e2 : fu = b := Option.some.inj hb
        subst e1 e2
        rw [roD_l h0]
        exact ⟨List.mem_cons_self, rfl⟩
      | 1, hx, hb =>
        have e1 : (D 0).2.2.1.getD 5 lowE = x := Option.some.inj hx
        have e2 : fu + 1 = b := Option.some.inj hb
        subst e2
        rw [roD_r]
        exact ⟨List.mem_cons_of_mem _ List.mem_cons_self, by rw [e1]⟩
      | k + 2, hx, hb => simp at hb
  · intro c hc' j hj x hx
    rcases roC_at hn hc' with ⟨z1, z⟩ | ⟨z1, z⟩ | ⟨z1, z⟩
    · have b1 := t4 _ _ z j hj
      rw [roD_n (hrt _ _ z z1 j hj) (by omega) (by omega)] at hx
      exact t8 _ z j hj x hx
    · have hr' := hr
      rw [← z1] at hr'
      have t9 := t8 _ hr' 0 List.mem_cons_self
      rw [z] at hj
      rcases List.mem_cons.mp hj with y | y
      · rw [y, roD_l h0] at hx
        exact t9 x (List.mem_of_mem_take hx)
      · rw [List.mem_singleton.mp y, roD_r] at hx
        exact t9 x (List.mem_of_mem_drop hx)
    · omega
end CR
