/-! THE LAYER: an abstract machine over the machine. A heap is a number (the next address) and a partial map from addresses to cells; address 0 is null, 1 the law's script, from 2 on what was made since the law began. x_E: from this pc, with these locals, stack and heap, the method comes to its return with Q. x_Con: a method's contract. -/
abbrev xC : Type := (Nat × List Value) ⊕ (Nat × List Value)
abbrev xH : Type := Nat × (Nat → Option xC)
abbrev xG : Type := Nat × Nat × Cell × va_G × (Nat → ClassId)
def x_am (G : xG) : Nat → Value
  | 0 => .null
  | 1 => .ref G.1
  | a + 2 => .ref (G.2.1 + a)
def x_sh (G : xG) : Value → Value
  | .ref a => x_am G a
  | .int x => .int x
  | .long x => .long x
  | v => v
def x_sp (G : xG) (q : Nat × Value) : Nat × Value := (q.1, x_sh G q.2)
theorem x_cat (G : xG) (v : Value) : (x_sh G v).category = v.category := by
  cases v with
  | ref a =>
    match a with
    | 0 => rfl
    | 1 => rfl
    | a + 2 => rfl
  | _ => rfl
theorem x_null (G : xG) : x_sh G .null = .null := rfl
theorem x_getD (G : xG) (vs : List Value) (k : Nat) : (vs.map (x_sh G)).getD k .null = x_sh G (vs.getD k .null) := by
  simp only [List.getD_eq_getElem?_getD, List.getElem?_map]
  cases vs[k]? <;> rfl
def x_at (G : xG) (H : Heap) (a : Nat) (c : xC) : Prop := match c with
  | .inl q => q.2.length < 2147483648 ∧ H[G.2.1 + (a - 2)]? = some (arrV (G.2.2.2.2 q.1) q.2.length (fun j => x_sh G (q.2.getD j .null)))
  | .inr q => ∃ r : vw_C, xCl[q.1]? = some r ∧ q.2.length = r.2.2 ∧ t_OB (G.2.1 + (a - 2)) (G.2.2.2.1.1 q.1) r.2.2 (G.2.2.2.1.2 q.1) H (fun k => x_sh G (q.2.getD k .null))
theorem x_at.kept {G : xG} {H H' : Heap} {a : Nat} {c : xC} (h : x_at G H a c) (e : H'[G.2.1 + (a - 2)]? = H[G.2.1 + (a - 2)]?) : x_at G H' a c := by
  cases c with
  | inl q => exact ⟨h.1, e.trans h.2⟩
  | inr q =>
    obtain ⟨r, h1, h2, h3⟩ := h
    exact ⟨r, h1, h2, h3.kept e⟩
def x_scr (G : xG) (c : xC) : Prop := ∃ xs : List Int32, c = .inl (5, xs.map Value.int) ∧ G.2.2.1.slots.size = xs.length ∧ xs.length < 2147483648 ∧ ∀ j, j < xs.length → G.2.2.1.slots[j]? = some (.int (xs.getD j 0))
def x_nk (c : xC) : Prop := match c with
  | .inl q => q.1 < 5
  | .inr _ => True
def x_Ho (G : xG) (h : xH) (H : Heap) : Prop := H.size + 2 = G.2.1 + h.1 ∧ 2 ≤ h.1 ∧ H[G.1]? = some G.2.2.1 ∧ ∀ (a : Nat) (c : xC), h.2 a = some c → (a = 1 ∧ x_scr G c) ∨ (2 ≤ a ∧ a < h.1 ∧ x_at G H a c)
def x_up (h : xH) (a : Nat) (c : xC) : xH := (h.1, fun q => if q = a then some c else h.2 q)
def x_nw (h : xH) (c : xC) : xH := (h.1 + 1, fun q => if q = h.1 then some c else h.2 q)
theorem x_Ho.at {G : xG} {h : xH} {H : Heap} {a : Nat} {c : xC} (ho : x_Ho G h H) (ha : h.2 a = some c) (hn : x_nk c) : 2 ≤ a ∧ a < h.1 ∧ x_at G H a c := by
  rcases ho.2.2.2 a c ha with ⟨-, xs, rfl, -⟩ | h
  · exact absurd hn (Nat.lt_irrefl 5)
  · exact h
theorem x_Ho.put {G : xG} {h : xH} {H H' : Heap} {a : Nat} {c c0 : xC} (hg : G.1 < G.2.1) (ho : x_Ho G h H) (ha : h.2 a = some c0) (hn : x_nk c0) (z : H'.size = H.size) (o : ∀ q : Nat, q ≠ G.2.1 + (a - 2) → H'[q]? = H[q]?) (hc : x_at G H' a c) : x_Ho G (x_up h a c) H' := by
  obtain ⟨a2, al, -⟩ := ho.at ha hn
  obtain ⟨h1, h2, h3, h4⟩ := ho
  refine ⟨by rw [z]; exact h1, h2, by rw [o _ (by omega)]; exact h3, fun b x hb => ?_⟩
  by_cases e : b = a
  · subst e
    simp only [x_up, if_true] at hb
    cases hb
    exact Or.inr ⟨a2, al, hc⟩
  · simp only [x_up, if_neg e] at hb
    rcases h4 b x hb with h5 | ⟨q1, q2, q3⟩
    · exact Or.inl h5
    · exact Or.inr ⟨q1, q2, q3.kept (o _ (by omega))⟩
theorem x_Ho.new {G : xG} {h : xH} {H H' : Heap} {c : xC} (hg : G.1 < G.2.1) (ho : x_Ho G h H) (z : H'.size = H.size + 1) (o : ∀ q : Nat, q < H.size → H'[q]? = H[q]?) (hc : x_at G H' h.1 c) : x_Ho G (x_nw h c) H' := by
  obtain ⟨h1, h2, h3, h4⟩ := ho
  have hlt : G.1 < H.size := (Array.getElem?_eq_some_iff.mp h3).1
  refine ⟨by show H'.size + 2 = G.2.1 + (h.1 + 1); omega, by show 2 ≤ h.1 + 1; omega, by rw [o _ hlt]; exact h3, fun b x hb => ?_⟩
  by_cases e : b = h.1
  · subst e
    simp only [x_nw, if_true] at hb
    cases hb
    exact Or.inr ⟨h2, by show h.1 < h.1 + 1; omega, hc⟩
  · simp only [x_nw, if_neg e] at hb
    rcases h4 b x hb with h5 | ⟨q1, q2, q3⟩
    · exact Or.inl h5
    · exact Or.inr ⟨q1, by show b < h.1 + 1; omega, q3.kept (o _ (by omega))⟩
def x_K (G : xG) (U : State) : Prop := (va_K G.2.2.2.1 xCl [] U ∧ U.isArrayOf G.2.2.1 .int ∧ G.2.2.1.vm ≠ .unknown) ∧ ∀ (k : Nat) (ty : FieldType), xTy[k]? = some ty → ArrOfT U (G.2.2.2.2 k) ty ∧ va_RA U (G.2.2.2.2 k) ty ∧ ∀ C : String, ty = .object C → va_AO C U
theorem x_K.moved {G : xG} {u U : State} (hvm : u.vm.Alike U.vm) (h : x_K G u) : x_K G U :=
  ⟨⟨h.1.1.moved hvm, State.isArrayOf_alike hvm h.1.2.1, h.1.2.2⟩, fun k ty hk => ⟨arrOfT_moved hvm (h.2 k ty hk).1, (h.2 k ty hk).2.1.moved hvm, fun C e => ((h.2 k ty hk).2.2 C e).moved hvm⟩⟩
def x_ws (y : xM) : List Cond := .code y.1 y.2.1 y.2.2.1 y.2.2.2 :: xW0
def x_Cx (G : xG) (y : xM) (d : Nat) (p : Program) (R : Room) (s : State) (m : MethodId) (args : Array Value) (meth : Method) (c : Code) : Prop :=
  p.tables.exec = Jvm.exec ∧ c.code = y.2.1 ∧ meth.sig.returnType = y.2.2.2 ∧ c.maxLocals = y.2.2.1 ∧ s.vm.findClass y.1.cls = some m.cls ∧ (∀ w ∈ xW0, w.before args s = true) ∧ x_K G s ∧ meth.locks = false ∧ meth.name = y.1.name ∧ d ≤ R.frames ∧ d * 64 ≤ R.locals ∧ G.1 < G.2.1
def x_rk (y : xM) (pc : Nat) (rv : List Value) : Prop :=
  (rv = [] ∧ y.2.2.2 = none ∧ decode y.2.1 pc = .ok (.return_, 1)) ∨ (∃ (v : Int32) (ty : FieldType), rv = [.int v] ∧ y.2.2.2 = some ty ∧ narrow ty (.int v) = .int v ∧ decode y.2.1 pc = .ok (.ireturn, 1)) ∨
  (∃ v : Int64, rv = [.long v] ∧ y.2.2.2 = some .long ∧ decode y.2.1 pc = .ok (.lreturn, 1)) ∨ (∃ (a : Nat) (rt : FieldType), rv = [.ref a] ∧ y.2.2.2 = some rt ∧ ((∃ n, rt = .object n) ∨ ∃ t, rt = .array t) ∧ decode y.2.1 pc = .ok (.areturn, 1))
def x_Rt (G : xG) (y : xM) (p : Program) (la : Launch) (e : Env) (R : Room) (s : State) (m : MethodId) (args : Array Value) (below : List Frame) (meth : Method) (c : Code) (Fin : State → Prop) (mc ms : Nat) (Q : List Value → xH → Prop) : Prop :=
  ∀ (rv : List Value) (h : xH) (H : Heap) (locs : List Loc) (pc : Nat) (ls : Array Slot), Q rv h → x_Ho G h H → (∀ q ∈ locs, G.2.1 ≤ q.base) → x_rk y pc rv → W p la e R s m args below meth c H locs mc ms Fin (F0 m pc ls (rv.map (x_sh G)))
def x_E (y : xM) (d kc ks pc : Nat) (l : List (Nat × Value)) (st : List Value) (h : xH) (Q : List Value → xH → Prop) : Prop :=
  ∀ (G : xG) (p : Program) (la : Launch) (e : Env) (R : Room) (s : State) (m : MethodId) (args : Array Value) (below : List Frame) (meth : Method) (c : Code) (Fin : State → Prop) (mc ms : Nat),
    x_Cx G y d p R s m args meth c → x_Rt G y p la e R s m args below meth c Fin mc ms Q → mc ≤ R.cells → ms ≤ R.slots →
    ∀ (H : Heap) (locs : List Loc) (cells slots : Nat) (ls : Array Slot), x_Ho G h H → lv_has ls y.2.2.1 (l.map (x_sp G)) → (∀ q ∈ locs, G.2.1 ≤ q.base) → cells + kc ≤ mc → slots + ks ≤ ms →
      W p la e R s m args below meth c H locs cells slots Fin (F0 m pc ls (st.map (x_sh G)))
def x_Con (y : xM) (d mc ms : Nat) (as : List Value) (h : xH) (Q : List Value → xH → Prop) : Prop :=
  ∀ (G : xG) (la : Launch), G.1 < G.2.1 → Met la y.1 (x_ws y) { frames := d, cells := mc, slots := ms, locals := d * 64 } (fun v U => v = (as.map (x_sh G)).toArray ∧ x_Ho G h U.heap ∧ x_K G U)
    (fun _ _ o t => ∃ (rv : List Value) (h' : xH), o = .returned (rv.map (x_sh G)).head? ∧ rv.length ≤ 1 ∧ Q rv h' ∧ x_Ho G h' t.heap) mc ms (fun q => G.2.1 ≤ q)
/-- fewer demands behind -/
theorem x_E.mono {y : xM} {d kc ks pc : Nat} {l : List (Nat × Value)} {st : List Value} {h : xH} {Q Q' : List Value → xH → Prop} (hq : ∀ rv h, Q rv h → Q' rv h) (k : x_E y d kc ks pc l st h Q) : x_E y d kc ks pc l st h Q' :=
  fun G p la e R s m args below meth c Fin mc ms C rt hmc hms => k G p la e R s m args below meth c Fin mc ms C (fun rv h' H locs pc ls q => rt rv h' H locs pc ls (hq rv h' q)) hmc hms
theorem x_Con.mono {y : xM} {d mc ms : Nat} {as : List Value} {h : xH} {Q Q' : List Value → xH → Prop} (hq : ∀ rv h, Q rv h → Q' rv h) (k : x_Con y d mc ms as h Q) : x_Con y d mc ms as h Q' := by
  intro G la hg p e ha hc hk s m args below hf hap hP hT
  obtain ⟨n, o, h1, h2, h3, ⟨rv, h', q1, q2, q3, q4⟩, h4⟩ := k G la hg p e ha hc hk s m args below hf hap hP hT
  exact ⟨n, o, h1, h2, h3, ⟨rv, h', q1, q2, hq _ _ q3, q4⟩, h4⟩
theorem x_lgl (G : xG) (as : List Value) : (lg_sl (as.map (x_sh G))).length = (lg_sl as).length := by
  induction as with
  | nil => rfl
  | cons v t ih =>
    simp only [lg_sl, List.map_cons, List.flatMap_cons, List.length_append] at ih ⊢
    rw [x_cat, ih]
    split <;> rfl
theorem x_args (G : xG) (as : List Value) : ∀ i : Nat, lv_args i (as.map (x_sh G)) = (lv_args i as).map (x_sp G) := by
  induction as with
  | nil => intro i; rfl
  | cons v t ih =>
    intro i
    show (i, x_sh G v) :: lv_args _ (t.map (x_sh G)) = (i, x_sh G v) :: (lv_args _ t).map (x_sp G)
    rw [x_cat, ih]
theorem x_ref (G : xG) (a : Nat) : x_sh G (.ref a) = .null ∨ ∃ b, x_sh G (.ref a) = .ref b := by
  match a with
  | 0 => exact Or.inl rfl
  | 1 => exact Or.inr ⟨_, rfl⟩
  | a + 2 => exact Or.inr ⟨_, rfl⟩
/-- a body gives a contract -/
theorem e_enter {y : xM} {d mc ms : Nat} {as : List Value} {h : xH} {Q : List Value → xH → Prop} (hpl : plainName y.1.cls = true) (hL : (lg_sl as).length ≤ y.2.2.1) (k : x_E y d mc ms 0 (lv_args 0 as) [] h Q) : x_Con y d mc ms as h Q := by
  intro G la hg
  refine Met.ofW (cc := y.2.1) (maxL := y.2.2.1) (ret := y.2.2.2) hpl rfl ?_
  intro p e s m args below meth c s₁ B hml hv
  obtain ⟨rfl, ho, hK⟩ := hv
  have hlocks := B.notSynchronized
  have C : x_Cx G y d p (headSpec (x_ws y) { frames := d, cells := mc, slots := ms, locals := d * 64 }).room s m (as.map (x_sh G)).toArray meth c :=
    ⟨B.exec, B.bytes, B.returns, hml, findClass_of_methodNamed B.named, fun w hw => atoms_spec (ws := x_ws y) B.pre w (List.mem_cons_of_mem _ hw), hK, hlocks, (name_of_methodNamed B.named B.method).1, Nat.le_refl _, Nat.le_refl _, hg⟩
  have hl := lv_entry (as.map (x_sh G)) (n := y.2.2.1) (by rw [x_lgl]; exact hL)
  rw [lg_entry_eq]
  rw [x_args] at hl
  refine k G p la e _ s m _ below meth c _ mc ms C ?_ (Nat.le_refl _) (Nat.le_refl _) s.heap [] 0 0 _ ho hl (fun _ h => by cases h) (by omega) (by omega)
  intro rv h' H locs pc ls hq hho hlo hrk
  have hr := C.2.2.1
  rcases hrk with ⟨rfl, e1, e2⟩ | ⟨v, ty, rfl, e1, e2, e3⟩ | ⟨v, rfl, e1, e2⟩ | ⟨a, rt, rfl, e1, e2, e3⟩
  · exact W.vret C.1 C.2.1 (hr.trans e1) (fun t ht hW => ⟨[], h', rfl, Nat.zero_le _, hq, by rw [ht]; exact hho⟩) hlo e2
  · exact W.zret C.1 C.2.1 (hr.trans e1) e2 (fun t ht hW => ⟨[.int v], h', rfl, Nat.le_refl _, hq, by rw [ht]; exact hho⟩) hlo e3
  · exact W.lret C.1 C.2.1 (hr.trans e1) (fun t ht hW => ⟨[.long v], h', rfl, Nat.le_refl _, hq, by rw [ht]; exact hho⟩) hlo e2
  · exact W.aret C.1 C.2.1 (hr.trans e1) e2 (x_ref G a) (fun t ht hW => ⟨[.ref a], h', rfl, Nat.le_refl _, hq, by rw [ht]; exact hho⟩) hlo e3
section XR
variable {y : xM} {d kc ks pc : Nat} {l : List (Nat × Value)} {st : List Value} {h : xH} {Q : List Value → xH → Prop}
def x_lk : List (Nat × Value) → Nat → Option Value
  | [], _ => none
  | q :: t, i => bif Nat.beq q.1 i then some q.2 else x_lk t i
theorem x_lk_in {i : Nat} {v : Value} : ∀ {l : List (Nat × Value)}, x_lk l i = some v → (i, v) ∈ l := by
  intro l
  induction l with
  | nil => intro h; cases h
  | cons q t ih =>
    intro h
    unfold x_lk at h
    cases hb : Nat.beq q.1 i with
    | true =>
      rw [hb] at h
      simp only [cond_true] at h
      have e : q.1 = i := Nat.eq_of_beq_eq_true hb
      have e2 : q.2 = v := Option.some.inj h
      rw [← e, ← e2]
      exact List.mem_cons_self
    | false =>
      rw [hb] at h
      simp only [cond_false] at h
      exact List.mem_cons_of_mem _ (ih h)
theorem x_ld {G : xG} {ls : Array Slot} {n i : Nat} {v : Value} (h : lv_has ls n (l.map (x_sp G))) (hk : x_lk l i = some v) : ls[i]? = some (.val (x_sh G v)) := h.2.2 (i, x_sh G v) (List.mem_map.mpr ⟨_, x_lk_in hk, rfl⟩)
def x_s1 (l : List (Nat × Value)) (i : Nat) (v : Value) : List (Nat × Value) := (i, v) :: l.filter (fun q => !(q.1 == i) && !(q.1 + 1 == i && q.2.category == 2))
def x_s2 (l : List (Nat × Value)) (i : Nat) (v : Value) : List (Nat × Value) := (i, v) :: l.filter (fun q => !(q.1 == i) && (!(q.1 == i + 1) && !(q.1 + 1 == i && q.2.category == 2)))
theorem x_s1m (G : xG) (l : List (Nat × Value)) (i : Nat) (v : Value) : (i, x_sh G v) :: (l.map (x_sp G)).filter (fun q => !(q.1 == i) && !(q.1 + 1 == i && q.2.category == 2)) = (x_s1 l i v).map (x_sp G) := by
  simp only [x_s1, List.map_cons, List.filter_map, x_sp]
  congr 3
  funext q
  simp only [Function.comp, x_sp, x_cat]
theorem x_s2m (G : xG) (l : List (Nat × Value)) (i : Nat) (v : Value) : (i, x_sh G v) :: (l.map (x_sp G)).filter (fun q => !(q.1 == i) && (!(q.1 == i + 1) && !(q.1 + 1 == i && q.2.category == 2))) = (x_s2 l i v).map (x_sp G) := by
  simp only [x_s2, List.map_cons, List.filter_map, x_sp]
  congr 3
  funext q
  simp only [Function.comp, x_sp, x_cat]
theorem e_iconst {n : Int} {v : Int32} (hd : decode y.2.1 pc = .ok (.iconst n, 1)) (hv : Int32.ofInt n = v) (k : x_E y d kc ks (pc + 1) l (.int v :: st) h Q) : x_E y d kc ks pc l (st) h Q :=
  fun G p la e R s m args below meth c Fin mc ms C rt hmc hms H locs cells slots ls ho hl hq h1 h2 => lv_iconst C.1 C.2.1 hd hv (k G p la e R s m args below meth c Fin mc ms C rt hmc hms H locs cells slots ls ho hl hq h1 h2)
theorem e_bipush {n : Int} {v : Int32} (hd : decode y.2.1 pc = .ok (.bipush n, 2)) (hv : (Int8.ofInt n).toInt32 = v) (k : x_E y d kc ks (pc + 2) l (.int v :: st) h Q) : x_E y d kc ks pc l (st) h Q :=
  fun G p la e R s m args below meth c Fin mc ms C rt hmc hms H locs cells slots ls ho hl hq h1 h2 => lv_bipush C.1 C.2.1 hd hv (k G p la e R s m args below meth c Fin mc ms C rt hmc hms H locs cells slots ls ho hl hq h1 h2)
theorem e_sipush {n : Int} {v : Int32} (hd : decode y.2.1 pc = .ok (.sipush n, 3)) (hv : (Int16.ofInt n).toInt32 = v) (k : x_E y d kc ks (pc + 3) l (.int v :: st) h Q) : x_E y d kc ks pc l (st) h Q :=
  fun G p la e R s m args below meth c Fin mc ms C rt hmc hms H locs cells slots ls ho hl hq h1 h2 => lv_sipush C.1 C.2.1 hd hv (k G p la e R s m args below meth c Fin mc ms C rt hmc hms H locs cells slots ls ho hl hq h1 h2)
theorem e_lconst {n : Fin 2} {v : Int64} (hd : decode y.2.1 pc = .ok (.lconst n, 1)) (hv : Int64.ofNat (n : Nat) = v) (k : x_E y d kc ks (pc + 1) l (.long v :: st) h Q) : x_E y d kc ks pc l (st) h Q :=
  fun G p la e R s m args below meth c Fin mc ms C rt hmc hms H locs cells slots ls ho hl hq h1 h2 => lv_lconst C.1 C.2.1 hd hv (k G p la e R s m args below meth c Fin mc ms C rt hmc hms H locs cells slots ls ho hl hq h1 h2)
theorem e_null (hd : decode y.2.1 pc = .ok (.aconst_null, 1)) (k : x_E y d kc ks (pc + 1) l (.ref 0 :: st) h Q) : x_E y d kc ks pc l (st) h Q :=
  fun G p la e R s m args below meth c Fin mc ms C rt hmc hms H locs cells slots ls ho hl hq h1 h2 => lv_null C.1 C.2.1 hd (k G p la e R s m args below meth c Fin mc ms C rt hmc hms H locs cells slots ls ho hl hq h1 h2)
theorem e_iload_n {k4 : Fin 4} {x : Int32} (hd : decode y.2.1 pc = .ok (.iload_n k4, 1)) (hx : x_lk l k4.val = some (.int x)) (k : x_E y d kc ks (pc + 1) l (.int x :: st) h Q) : x_E y d kc ks pc l (st) h Q :=
  fun G p la e R s m args below meth c Fin mc ms C rt hmc hms H locs cells slots ls ho hl hq h1 h2 => lv_iload_n C.1 C.2.1 hd rfl (x_ld hl hx) (k G p la e R s m args below meth c Fin mc ms C rt hmc hms H locs cells slots ls ho hl hq h1 h2)
theorem e_iload {i : Nat} {x : Int32} (hd : decode y.2.1 pc = .ok (.iload i, 2)) (hx : x_lk l i = some (.int x)) (k : x_E y d kc ks (pc + 2) l (.int x :: st) h Q) : x_E y d kc ks pc l (st) h Q :=
  fun G p la e R s m args below meth c Fin mc ms C rt hmc hms H locs cells slots ls ho hl hq h1 h2 => lv_iload C.1 C.2.1 hd (x_ld hl hx) (k G p la e R s m args below meth c Fin mc ms C rt hmc hms H locs cells slots ls ho hl hq h1 h2)
theorem e_lload_n {k4 : Fin 4} {x : Int64} (hd : decode y.2.1 pc = .ok (.lload_n k4, 1)) (hx : x_lk l k4.val = some (.long x)) (k : x_E y d kc ks (pc + 1) l (.long x :: st) h Q) : x_E y d kc ks pc l (st) h Q :=
  fun G p la e R s m args below meth c Fin mc ms C rt hmc hms H locs cells slots ls ho hl hq h1 h2 => lv_lload_n C.1 C.2.1 hd rfl (x_ld hl hx) (k G p la e R s m args below meth c Fin mc ms C rt hmc hms H locs cells slots ls ho hl hq h1 h2)
theorem e_lload {i : Nat} {x : Int64} (hd : decode y.2.1 pc = .ok (.lload i, 2)) (hx : x_lk l i = some (.long x)) (k : x_E y d kc ks (pc + 2) l (.long x :: st) h Q) : x_E y d kc ks pc l (st) h Q :=
  fun G p la e R s m args below meth c Fin mc ms C rt hmc hms H locs cells slots ls ho hl hq h1 h2 => lv_lload C.1 C.2.1 hd (x_ld hl hx) (k G p la e R s m args below meth c Fin mc ms C rt hmc hms H locs cells slots ls ho hl hq h1 h2)
theorem e_aload_n {k4 : Fin 4} {x : Nat} (hd : decode y.2.1 pc = .ok (.aload_n k4, 1)) (hx : x_lk l k4.val = some (.ref x)) (k : x_E y d kc ks (pc + 1) l (.ref x :: st) h Q) : x_E y d kc ks pc l st h Q := by
  intro G p la e R s m args below meth c Fin mc ms C rt hmc hms H locs cells slots ls ho hl hq h1 h2
  have hk := k G p la e R s m args below meth c Fin mc ms C rt hmc hms H locs cells slots ls ho hl hq h1 h2
  have hy := x_ld hl hx
  match x, hk, hy with
  | 0, hk, hy => exact lv_aload_nN C.1 C.2.1 hd rfl hy hk
  | 1, hk, hy => exact lv_aload_n C.1 C.2.1 hd rfl hy hk
  | a + 2, hk, hy => exact lv_aload_n C.1 C.2.1 hd rfl hy hk
theorem e_aload {i : Nat} {x : Nat} (hd : decode y.2.1 pc = .ok (.aload i, 2)) (hx : x_lk l i = some (.ref x)) (k : x_E y d kc ks (pc + 2) l (.ref x :: st) h Q) : x_E y d kc ks pc l st h Q := by
  intro G p la e R s m args below meth c Fin mc ms C rt hmc hms H locs cells slots ls ho hl hq h1 h2
  have hk := k G p la e R s m args below meth c Fin mc ms C rt hmc hms H locs cells slots ls ho hl hq h1 h2
  have hy := x_ld hl hx
  match x, hk, hy with
  | 0, hk, hy => exact lv_aloadN C.1 C.2.1 hd hy hk
  | 1, hk, hy => exact lv_aload C.1 C.2.1 hd hy hk
  | a + 2, hk, hy => exact lv_aload C.1 C.2.1 hd hy hk
theorem e_istore_n {k4 : Fin 4} {x : Int32} {l' : List (Nat × Value)} (hd : decode y.2.1 pc = .ok (.istore_n k4, 1)) (hn : k4.val < y.2.2.1) (hs : x_s1 l k4.val (.int x) = l') (k : x_E y d kc ks (pc + 1) l' st h Q) : x_E y d kc ks pc l (.int x :: st) h Q := by
  intro G p la e R s m args below meth c Fin mc ms C rt hmc hms H locs cells slots ls ho hl hq h1 h2
  refine lv_istore_n C.1 C.2.1 hd rfl hl hn (x_s1m G l k4.val (.int x)) fun ls hl => ?_
  rw [hs] at hl
  exact k G p la e R s m args below meth c Fin mc ms C rt hmc hms H locs cells slots ls ho hl hq h1 h2
theorem e_istore {i : Nat} {x : Int32} {l' : List (Nat × Value)} (hd : decode y.2.1 pc = .ok (.istore i, 2)) (hn : i < y.2.2.1) (hs : x_s1 l i (.int x) = l') (k : x_E y d kc ks (pc + 2) l' st h Q) : x_E y d kc ks pc l (.int x :: st) h Q := by
  intro G p la e R s m args below meth c Fin mc ms C rt hmc hms H locs cells slots ls ho hl hq h1 h2
  refine lv_istore C.1 C.2.1 hd hl hn (x_s1m G l i (.int x)) fun ls hl => ?_
  rw [hs] at hl
  exact k G p la e R s m args below meth c Fin mc ms C rt hmc hms H locs cells slots ls ho hl hq h1 h2
theorem e_lstore_n {k4 : Fin 4} {x : Int64} {l' : List (Nat × Value)} (hd : decode y.2.1 pc = .ok (.lstore_n k4, 1)) (hn : k4.val + 1 < y.2.2.1) (hs : x_s2 l k4.val (.long x) = l') (k : x_E y d kc ks (pc + 1) l' st h Q) : x_E y d kc ks pc l (.long x :: st) h Q := by
  intro G p la e R s m args below meth c Fin mc ms C rt hmc hms H locs cells slots ls ho hl hq h1 h2
  refine lv_lstore_n C.1 C.2.1 hd rfl hl hn (x_s2m G l k4.val (.long x)) fun ls hl => ?_
  rw [hs] at hl
  exact k G p la e R s m args below meth c Fin mc ms C rt hmc hms H locs cells slots ls ho hl hq h1 h2
theorem e_lstore {i : Nat} {x : Int64} {l' : List (Nat × Value)} (hd : decode y.2.1 pc = .ok (.lstore i, 2)) (hn : i + 1 < y.2.2.1) (hs : x_s2 l i (.long x) = l') (k : x_E y d kc ks (pc + 2) l' st h Q) : x_E y d kc ks pc l (.long x :: st) h Q := by
  intro G p la e R s m args below meth c Fin mc ms C rt hmc hms H locs cells slots ls ho hl hq h1 h2
  refine lv_lstore C.1 C.2.1 hd hl hn (x_s2m G l i (.long x)) fun ls hl => ?_
  rw [hs] at hl
  exact k G p la e R s m args below meth c Fin mc ms C rt hmc hms H locs cells slots ls ho hl hq h1 h2
theorem e_astore_n {k4 : Fin 4} {x : Nat} {l' : List (Nat × Value)} (hd : decode y.2.1 pc = .ok (.astore_n k4, 1)) (hn : k4.val < y.2.2.1) (hs : x_s1 l k4.val (.ref x) = l') (k : x_E y d kc ks (pc + 1) l' st h Q) : x_E y d kc ks pc l (.ref x :: st) h Q := by
  intro G p la e R s m args below meth c Fin mc ms C rt hmc hms H locs cells slots ls ho hl hq h1 h2
  have hm := x_s1m G l k4.val (.ref x)
  rw [hs] at hm
  have hk := fun (ls : Array Slot) hl => k G p la e R s m args below meth c Fin mc ms C rt hmc hms H locs cells slots ls ho hl hq h1 h2
  match x, hm with
  | 0, hm => exact lv_astore_nN C.1 C.2.1 hd rfl hl hn hm hk
  | 1, hm => exact lv_astore_n C.1 C.2.1 hd rfl hl hn hm hk
  | a + 2, hm => exact lv_astore_n C.1 C.2.1 hd rfl hl hn hm hk
theorem e_astore {i : Nat} {x : Nat} {l' : List (Nat × Value)} (hd : decode y.2.1 pc = .ok (.astore i, 2)) (hn : i < y.2.2.1) (hs : x_s1 l i (.ref x) = l') (k : x_E y d kc ks (pc + 2) l' st h Q) : x_E y d kc ks pc l (.ref x :: st) h Q := by
  intro G p la e R s m args below meth c Fin mc ms C rt hmc hms H locs cells slots ls ho hl hq h1 h2
  have hm := x_s1m G l i (.ref x)
  rw [hs] at hm
  have hk := fun (ls : Array Slot) hl => k G p la e R s m args below meth c Fin mc ms C rt hmc hms H locs cells slots ls ho hl hq h1 h2
  match x, hm with
  | 0, hm => exact lv_astoreN C.1 C.2.1 hd hl hn hm hk
  | 1, hm => exact lv_astore C.1 C.2.1 hd hl hn hm hk
  | a + 2, hm => exact lv_astore C.1 C.2.1 hd hl hn hm hk
theorem e_iinc {i : Nat} {n : Int} {x v : Int32} {l' : List (Nat × Value)} (hd : decode y.2.1 pc = .ok (.iinc i n, 3)) (hx : x_lk l i = some (.int x)) (hv : x + Int32.ofInt n = v) (hn : i < y.2.2.1) (hs : x_s1 l i (.int v) = l') (k : x_E y d kc ks (pc + 3) l' st h Q) : x_E y d kc ks pc l st h Q := by
  intro G p la e R s m args below meth c Fin mc ms C rt hmc hms H locs cells slots ls ho hl hq h1 h2
  obtain ⟨j, hj⟩ := List.getElem?_of_mem (x_lk_in hx)
  refine lv_iinc (k := j) (x := x) (v := v) C.1 C.2.1 hd hl (by rw [List.getElem?_map, hj]; rfl) hv hn (x_s1m G l i (.int v)) fun ls hl => ?_
  rw [hs] at hl
  exact k G p la e R s m args below meth c Fin mc ms C rt hmc hms H locs cells slots ls ho hl hq h1 h2
theorem e_iadd {x z : Int32} (hd : decode y.2.1 pc = .ok (.iadd, 1)) (k : x_E y d kc ks (pc + 1) l (.int (x + z) :: st) h Q) : x_E y d kc ks pc l (.int z :: .int x :: st) h Q :=
  fun G p la e R s m args below meth c Fin mc ms C rt hmc hms H locs cells slots ls ho hl hq h1 h2 => lv_iadd C.1 C.2.1 hd (k G p la e R s m args below meth c Fin mc ms C rt hmc hms H locs cells slots ls ho hl hq h1 h2)
theorem e_isub {x z : Int32} (hd : decode y.2.1 pc = .ok (.isub, 1)) (k : x_E y d kc ks (pc + 1) l (.int (x - z) :: st) h Q) : x_E y d kc ks pc l (.int z :: .int x :: st) h Q :=
  fun G p la e R s m args below meth c Fin mc ms C rt hmc hms H locs cells slots ls ho hl hq h1 h2 => lv_isub C.1 C.2.1 hd (k G p la e R s m args below meth c Fin mc ms C rt hmc hms H locs cells slots ls ho hl hq h1 h2)
theorem e_imul {x z : Int32} (hd : decode y.2.1 pc = .ok (.imul, 1)) (k : x_E y d kc ks (pc + 1) l (.int (x * z) :: st) h Q) : x_E y d kc ks pc l (.int z :: .int x :: st) h Q :=
  fun G p la e R s m args below meth c Fin mc ms C rt hmc hms H locs cells slots ls ho hl hq h1 h2 => lv_imul C.1 C.2.1 hd (k G p la e R s m args below meth c Fin mc ms C rt hmc hms H locs cells slots ls ho hl hq h1 h2)
theorem e_iand {x z : Int32} (hd : decode y.2.1 pc = .ok (.iand, 1)) (k : x_E y d kc ks (pc + 1) l (.int (x &&& z) :: st) h Q) : x_E y d kc ks pc l (.int z :: .int x :: st) h Q :=
  fun G p la e R s m args below meth c Fin mc ms C rt hmc hms H locs cells slots ls ho hl hq h1 h2 => lv_iand C.1 C.2.1 hd (k G p la e R s m args below meth c Fin mc ms C rt hmc hms H locs cells slots ls ho hl hq h1 h2)
theorem e_ior {x z : Int32} (hd : decode y.2.1 pc = .ok (.ior, 1)) (k : x_E y d kc ks (pc + 1) l (.int (x ||| z) :: st) h Q) : x_E y d kc ks pc l (.int z :: .int x :: st) h Q :=
  fun G p la e R s m args below meth c Fin mc ms C rt hmc hms H locs cells slots ls ho hl hq h1 h2 => lv_ior C.1 C.2.1 hd (k G p la e R s m args below meth c Fin mc ms C rt hmc hms H locs cells slots ls ho hl hq h1 h2)
theorem e_ixor {x z : Int32} (hd : decode y.2.1 pc = .ok (.ixor, 1)) (k : x_E y d kc ks (pc + 1) l (.int (x ^^^ z) :: st) h Q) : x_E y d kc ks pc l (.int z :: .int x :: st) h Q :=
  fun G p la e R s m args below meth c Fin mc ms C rt hmc hms H locs cells slots ls ho hl hq h1 h2 => lv_ixor C.1 C.2.1 hd (k G p la e R s m args below meth c Fin mc ms C rt hmc hms H locs cells slots ls ho hl hq h1 h2)
theorem e_ishl {x z : Int32} (hd : decode y.2.1 pc = .ok (.ishl, 1)) (k : x_E y d kc ks (pc + 1) l (.int (x <<< (z &&& 31)) :: st) h Q) : x_E y d kc ks pc l (.int z :: .int x :: st) h Q :=
  fun G p la e R s m args below meth c Fin mc ms C rt hmc hms H locs cells slots ls ho hl hq h1 h2 => lv_ishl C.1 C.2.1 hd (k G p la e R s m args below meth c Fin mc ms C rt hmc hms H locs cells slots ls ho hl hq h1 h2)
theorem e_ishr {x z : Int32} (hd : decode y.2.1 pc = .ok (.ishr, 1)) (k : x_E y d kc ks (pc + 1) l (.int (x >>> (z &&& 31)) :: st) h Q) : x_E y d kc ks pc l (.int z :: .int x :: st) h Q :=
  fun G p la e R s m args below meth c Fin mc ms C rt hmc hms H locs cells slots ls ho hl hq h1 h2 => lv_ishr C.1 C.2.1 hd (k G p la e R s m args below meth c Fin mc ms C rt hmc hms H locs cells slots ls ho hl hq h1 h2)
theorem e_iushr {x z v : Int32} (hd : decode y.2.1 pc = .ok (.iushr, 1)) (hv : (x.toUInt32 >>> (z.toUInt32 &&& Int32.toUInt32 31)).toInt32 = v) (k : x_E y d kc ks (pc + 1) l (.int v :: st) h Q) : x_E y d kc ks pc l (.int z :: .int x :: st) h Q :=
  fun G p la e R s m args below meth c Fin mc ms C rt hmc hms H locs cells slots ls ho hl hq h1 h2 => lv_iushr C.1 C.2.1 hd hv (k G p la e R s m args below meth c Fin mc ms C rt hmc hms H locs cells slots ls ho hl hq h1 h2)
theorem e_irem {x z : Int32} (hd : decode y.2.1 pc = .ok (.irem, 1)) (hne : ¬ z = 0) (k : x_E y d kc ks (pc + 1) l (.int (x - x / z * z) :: st) h Q) : x_E y d kc ks pc l (.int z :: .int x :: st) h Q :=
  fun G p la e R s m args below meth c Fin mc ms C rt hmc hms H locs cells slots ls ho hl hq h1 h2 => lv_irem C.1 C.2.1 hd hne (k G p la e R s m args below meth c Fin mc ms C rt hmc hms H locs cells slots ls ho hl hq h1 h2)
theorem e_idiv {x z : Int32} (hd : decode y.2.1 pc = .ok (.idiv, 1)) (hne : ¬ z = 0) (k : x_E y d kc ks (pc + 1) l (.int (x / z) :: st) h Q) : x_E y d kc ks pc l (.int z :: .int x :: st) h Q :=
  fun G p la e R s m args below meth c Fin mc ms C rt hmc hms H locs cells slots ls ho hl hq h1 h2 => lv_idiv C.1 C.2.1 hd hne (k G p la e R s m args below meth c Fin mc ms C rt hmc hms H locs cells slots ls ho hl hq h1 h2)
theorem e_ineg {x : Int32} (hd : decode y.2.1 pc = .ok (.ineg, 1)) (k : x_E y d kc ks (pc + 1) l (.int (-x) :: st) h Q) : x_E y d kc ks pc l (.int x :: st) h Q :=
  fun G p la e R s m args below meth c Fin mc ms C rt hmc hms H locs cells slots ls ho hl hq h1 h2 => lv_ineg C.1 C.2.1 hd (k G p la e R s m args below meth c Fin mc ms C rt hmc hms H locs cells slots ls ho hl hq h1 h2)
theorem e_ladd {x z : Int64} (hd : decode y.2.1 pc = .ok (.ladd, 1)) (k : x_E y d kc ks (pc + 1) l (.long (x + z) :: st) h Q) : x_E y d kc ks pc l (.long z :: .long x :: st) h Q :=
  fun G p la e R s m args below meth c Fin mc ms C rt hmc hms H locs cells slots ls ho hl hq h1 h2 => lv_ladd C.1 C.2.1 hd (k G p la e R s m args below meth c Fin mc ms C rt hmc hms H locs cells slots ls ho hl hq h1 h2)
theorem e_lsub {x z : Int64} (hd : decode y.2.1 pc = .ok (.lsub, 1)) (k : x_E y d kc ks (pc + 1) l (.long (x - z) :: st) h Q) : x_E y d kc ks pc l (.long z :: .long x :: st) h Q :=
  fun G p la e R s m args below meth c Fin mc ms C rt hmc hms H locs cells slots ls ho hl hq h1 h2 => lv_lsub C.1 C.2.1 hd (k G p la e R s m args below meth c Fin mc ms C rt hmc hms H locs cells slots ls ho hl hq h1 h2)
theorem e_lmul {x z : Int64} (hd : decode y.2.1 pc = .ok (.lmul, 1)) (k : x_E y d kc ks (pc + 1) l (.long (x * z) :: st) h Q) : x_E y d kc ks pc l (.long z :: .long x :: st) h Q :=
  fun G p la e R s m args below meth c Fin mc ms C rt hmc hms H locs cells slots ls ho hl hq h1 h2 => lv_lmul C.1 C.2.1 hd (k G p la e R s m args below meth c Fin mc ms C rt hmc hms H locs cells slots ls ho hl hq h1 h2)
theorem e_land {x z : Int64} (hd : decode y.2.1 pc = .ok (.land, 1)) (k : x_E y d kc ks (pc + 1) l (.long (x &&& z) :: st) h Q) : x_E y d kc ks pc l (.long z :: .long x :: st) h Q :=
  fun G p la e R s m args below meth c Fin mc ms C rt hmc hms H locs cells slots ls ho hl hq h1 h2 => lv_land C.1 C.2.1 hd (k G p la e R s m args below meth c Fin mc ms C rt hmc hms H locs cells slots ls ho hl hq h1 h2)
theorem e_lor {x z : Int64} (hd : decode y.2.1 pc = .ok (.lor, 1)) (k : x_E y d kc ks (pc + 1) l (.long (x ||| z) :: st) h Q) : x_E y d kc ks pc l (.long z :: .long x :: st) h Q :=
  fun G p la e R s m args below meth c Fin mc ms C rt hmc hms H locs cells slots ls ho hl hq h1 h2 => lv_lor C.1 C.2.1 hd (k G p la e R s m args below meth c Fin mc ms C rt hmc hms H locs cells slots ls ho hl hq h1 h2)
theorem e_lxor {x z : Int64} (hd : decode y.2.1 pc = .ok (.lxor, 1)) (k : x_E y d kc ks (pc + 1) l (.long (x ^^^ z) :: st) h Q) : x_E y d kc ks pc l (.long z :: .long x :: st) h Q :=
  fun G p la e R s m args below meth c Fin mc ms C rt hmc hms H locs cells slots ls ho hl hq h1 h2 => lv_lxor C.1 C.2.1 hd (k G p la e R s m args below meth c Fin mc ms C rt hmc hms H locs cells slots ls ho hl hq h1 h2)
theorem e_lcmp {x z : Int64} (hd : decode y.2.1 pc = .ok (.lcmp, 1)) (k : x_E y d kc ks (pc + 1) l (.int (lg_cmp x z) :: st) h Q) : x_E y d kc ks pc l (.long z :: .long x :: st) h Q :=
  fun G p la e R s m args below meth c Fin mc ms C rt hmc hms H locs cells slots ls ho hl hq h1 h2 => W.lcmp C.1 C.2.1 hd (k G p la e R s m args below meth c Fin mc ms C rt hmc hms H locs cells slots ls ho hl hq h1 h2)
theorem e_i2l {x : Int32} {v : Int64} (hd : decode y.2.1 pc = .ok (.i2l, 1)) (hv : x.toInt64 = v) (k : x_E y d kc ks (pc + 1) l (.long v :: st) h Q) : x_E y d kc ks pc l (.int x :: st) h Q :=
  fun G p la e R s m args below meth c Fin mc ms C rt hmc hms H locs cells slots ls ho hl hq h1 h2 => lv_i2l C.1 C.2.1 hd hv (k G p la e R s m args below meth c Fin mc ms C rt hmc hms H locs cells slots ls ho hl hq h1 h2)
theorem e_l2i {x : Int64} {v : Int32} (hd : decode y.2.1 pc = .ok (.l2i, 1)) (hv : x.toInt32 = v) (k : x_E y d kc ks (pc + 1) l (.int v :: st) h Q) : x_E y d kc ks pc l (.long x :: st) h Q :=
  fun G p la e R s m args below meth c Fin mc ms C rt hmc hms H locs cells slots ls ho hl hq h1 h2 => lv_l2i C.1 C.2.1 hd hv (k G p la e R s m args below meth c Fin mc ms C rt hmc hms H locs cells slots ls ho hl hq h1 h2)
theorem e_lshl {x v : Int64} {z : Int32} (hd : decode y.2.1 pc = .ok (.lshl, 1)) (hv : x <<< (z.toInt64 &&& 63) = v) (k : x_E y d kc ks (pc + 1) l (.long v :: st) h Q) : x_E y d kc ks pc l (.int z :: .long x :: st) h Q :=
  fun G p la e R s m args below meth c Fin mc ms C rt hmc hms H locs cells slots ls ho hl hq h1 h2 => lv_lshl C.1 C.2.1 hd hv (k G p la e R s m args below meth c Fin mc ms C rt hmc hms H locs cells slots ls ho hl hq h1 h2)
theorem e_lushr {x v : Int64} {z : Int32} (hd : decode y.2.1 pc = .ok (.lushr, 1)) (hv : (x.toUInt64 >>> (z.toInt64.toUInt64 &&& Int64.toUInt64 63)).toInt64 = v) (k : x_E y d kc ks (pc + 1) l (.long v :: st) h Q) : x_E y d kc ks pc l (.int z :: .long x :: st) h Q :=
  fun G p la e R s m args below meth c Fin mc ms C rt hmc hms H locs cells slots ls ho hl hq h1 h2 => lv_lushr C.1 C.2.1 hd hv (k G p la e R s m args below meth c Fin mc ms C rt hmc hms H locs cells slots ls ho hl hq h1 h2)
theorem e_lshr {x v : Int64} {z : Int32} (hd : decode y.2.1 pc = .ok (.lshr, 1)) (hv : x >>> (z.toInt64 &&& 63) = v) (k : x_E y d kc ks (pc + 1) l (.long v :: st) h Q) : x_E y d kc ks pc l (.int z :: .long x :: st) h Q :=
  fun G p la e R s m args below meth c Fin mc ms C rt hmc hms H locs cells slots ls ho hl hq h1 h2 => lv_lshr C.1 C.2.1 hd hv (k G p la e R s m args below meth c Fin mc ms C rt hmc hms H locs cells slots ls ho hl hq h1 h2)
theorem e_dup {va : Value} (hd : decode y.2.1 pc = .ok (.dup, 1)) (c0 : va.category = 1) (k : x_E y d kc ks (pc + 1) l (va :: va :: st) h Q) : x_E y d kc ks pc l (va :: st) h Q :=
  fun G p la e R s m args below meth c Fin mc ms C rt hmc hms H locs cells slots ls ho hl hq h1 h2 => lv_dup C.1 C.2.1 hd ((x_cat G va).trans c0) (k G p la e R s m args below meth c Fin mc ms C rt hmc hms H locs cells slots ls ho hl hq h1 h2)
theorem e_pop {va : Value} (hd : decode y.2.1 pc = .ok (.pop, 1)) (c0 : va.category = 1) (k : x_E y d kc ks (pc + 1) l (st) h Q) : x_E y d kc ks pc l (va :: st) h Q :=
  fun G p la e R s m args below meth c Fin mc ms C rt hmc hms H locs cells slots ls ho hl hq h1 h2 => lv_pop C.1 C.2.1 hd ((x_cat G va).trans c0) (k G p la e R s m args below meth c Fin mc ms C rt hmc hms H locs cells slots ls ho hl hq h1 h2)
theorem e_dup_x1 {va vb : Value} (hd : decode y.2.1 pc = .ok (.dup_x1, 1)) (c0 : va.category = 1) (c1 : vb.category = 1) (k : x_E y d kc ks (pc + 1) l (va :: vb :: va :: st) h Q) : x_E y d kc ks pc l (va :: vb :: st) h Q :=
  fun G p la e R s m args below meth c Fin mc ms C rt hmc hms H locs cells slots ls ho hl hq h1 h2 => lv_dup_x1 C.1 C.2.1 hd ((x_cat G va).trans c0) ((x_cat G vb).trans c1) (k G p la e R s m args below meth c Fin mc ms C rt hmc hms H locs cells slots ls ho hl hq h1 h2)
theorem e_dup_x2 {va vb vd : Value} (hd : decode y.2.1 pc = .ok (.dup_x2, 1)) (c0 : va.category = 1) (c1 : vb.category = 1) (c2 : vd.category = 1) (k : x_E y d kc ks (pc + 1) l (va :: vb :: vd :: va :: st) h Q) : x_E y d kc ks pc l (va :: vb :: vd :: st) h Q :=
  fun G p la e R s m args below meth c Fin mc ms C rt hmc hms H locs cells slots ls ho hl hq h1 h2 => lv_dup_x2 C.1 C.2.1 hd ((x_cat G va).trans c0) ((x_cat G vb).trans c1) ((x_cat G vd).trans c2) (k G p la e R s m args below meth c Fin mc ms C rt hmc hms H locs cells slots ls ho hl hq h1 h2)
theorem e_dup2_11 {va vb : Value} (hd : decode y.2.1 pc = .ok (.dup2, 1)) (c0 : va.category = 1) (c1 : vb.category = 1) (k : x_E y d kc ks (pc + 1) l (va :: vb :: va :: vb :: st) h Q) : x_E y d kc ks pc l (va :: vb :: st) h Q :=
  fun G p la e R s m args below meth c Fin mc ms C rt hmc hms H locs cells slots ls ho hl hq h1 h2 => lv_dup2_11 C.1 C.2.1 hd ((x_cat G va).trans c0) ((x_cat G vb).trans c1) (k G p la e R s m args below meth c Fin mc ms C rt hmc hms H locs cells slots ls ho hl hq h1 h2)
theorem e_dup2_2 {va : Value} (hd : decode y.2.1 pc = .ok (.dup2, 1)) (c0 : va.category = 2) (k : x_E y d kc ks (pc + 1) l (va :: va :: st) h Q) : x_E y d kc ks pc l (va :: st) h Q :=
  fun G p la e R s m args below meth c Fin mc ms C rt hmc hms H locs cells slots ls ho hl hq h1 h2 => lv_dup2_2 C.1 C.2.1 hd ((x_cat G va).trans c0) (k G p la e R s m args below meth c Fin mc ms C rt hmc hms H locs cells slots ls ho hl hq h1 h2)
theorem e_pop2_2 {va : Value} (hd : decode y.2.1 pc = .ok (.pop2, 1)) (c0 : va.category = 2) (k : x_E y d kc ks (pc + 1) l (st) h Q) : x_E y d kc ks pc l (va :: st) h Q :=
  fun G p la e R s m args below meth c Fin mc ms C rt hmc hms H locs cells slots ls ho hl hq h1 h2 => lv_pop2_2 C.1 C.2.1 hd ((x_cat G va).trans c0) (k G p la e R s m args below meth c Fin mc ms C rt hmc hms H locs cells slots ls ho hl hq h1 h2)
theorem e_dup2_x1_2 {va vb : Value} (hd : decode y.2.1 pc = .ok (.dup2_x1, 1)) (c0 : va.category = 2) (c1 : vb.category = 1) (k : x_E y d kc ks (pc + 1) l (va :: vb :: va :: st) h Q) : x_E y d kc ks pc l (va :: vb :: st) h Q :=
  fun G p la e R s m args below meth c Fin mc ms C rt hmc hms H locs cells slots ls ho hl hq h1 h2 => lv_dup2_x1_2 C.1 C.2.1 hd ((x_cat G va).trans c0) ((x_cat G vb).trans c1) (k G p la e R s m args below meth c Fin mc ms C rt hmc hms H locs cells slots ls ho hl hq h1 h2)
theorem e_goto {off : Int} {tgt : Nat} (hd : decode y.2.1 pc = .ok (.goto off, 3)) (ht : (pc : Int) + off = (tgt : Int)) (k : x_E y d kc ks tgt l st h Q) : x_E y d kc ks pc l st h Q :=
  fun G p la e R s m args below meth c Fin mc ms C rt hmc hms H locs cells slots ls ho hl hq h1 h2 => lv_goto C.1 C.2.1 hd ht (k G p la e R s m args below meth c Fin mc ms C rt hmc hms H locs cells slots ls ho hl hq h1 h2)
theorem e_if_eq {x : Int32} {off : Int} {tgt : Nat} (hd : decode y.2.1 pc = .ok (.ifCond .eq off, 3)) (ht : (pc : Int) + off = (tgt : Int)) (kt : x = 0 → x_E y d kc ks tgt l st h Q) (kf : ¬ x = 0 → x_E y d kc ks (pc + 3) l st h Q) : x_E y d kc ks pc l (.int x :: st) h Q :=
  fun G p la e R s m args below meth c Fin mc ms C rt hmc hms H locs cells slots ls ho hl hq h1 h2 => lv_if_eq C.1 C.2.1 hd ht (fun q => kt q G p la e R s m args below meth c Fin mc ms C rt hmc hms H locs cells slots ls ho hl hq h1 h2) (fun q => kf q G p la e R s m args below meth c Fin mc ms C rt hmc hms H locs cells slots ls ho hl hq h1 h2)
theorem e_icmp_eq {x z : Int32} {off : Int} {tgt : Nat} (hd : decode y.2.1 pc = .ok (.if_icmp .eq off, 3)) (ht : (pc : Int) + off = (tgt : Int)) (kt : x = z → x_E y d kc ks tgt l st h Q) (kf : ¬ x = z → x_E y d kc ks (pc + 3) l st h Q) : x_E y d kc ks pc l (.int z :: .int x :: st) h Q :=
  fun G p la e R s m args below meth c Fin mc ms C rt hmc hms H locs cells slots ls ho hl hq h1 h2 => lv_icmp_eq C.1 C.2.1 hd ht (fun q => kt q G p la e R s m args below meth c Fin mc ms C rt hmc hms H locs cells slots ls ho hl hq h1 h2) (fun q => kf q G p la e R s m args below meth c Fin mc ms C rt hmc hms H locs cells slots ls ho hl hq h1 h2)
theorem e_if_ne {x : Int32} {off : Int} {tgt : Nat} (hd : decode y.2.1 pc = .ok (.ifCond .ne off, 3)) (ht : (pc : Int) + off = (tgt : Int)) (kt : ¬ x = 0 → x_E y d kc ks tgt l st h Q) (kf : x = 0 → x_E y d kc ks (pc + 3) l st h Q) : x_E y d kc ks pc l (.int x :: st) h Q :=
  fun G p la e R s m args below meth c Fin mc ms C rt hmc hms H locs cells slots ls ho hl hq h1 h2 => lv_if_ne C.1 C.2.1 hd ht (fun q => kt q G p la e R s m args below meth c Fin mc ms C rt hmc hms H locs cells slots ls ho hl hq h1 h2) (fun q => kf q G p la e R s m args below meth c Fin mc ms C rt hmc hms H locs cells slots ls ho hl hq h1 h2)
theorem e_icmp_ne {x z : Int32} {off : Int} {tgt : Nat} (hd : decode y.2.1 pc = .ok (.if_icmp .ne off, 3)) (ht : (pc : Int) + off = (tgt : Int)) (kt : ¬ x = z → x_E y d kc ks tgt l st h Q) (kf : x = z → x_E y d kc ks (pc + 3) l st h Q) : x_E y d kc ks pc l (.int z :: .int x :: st) h Q :=
  fun G p la e R s m args below meth c Fin mc ms C rt hmc hms H locs cells slots ls ho hl hq h1 h2 => lv_icmp_ne C.1 C.2.1 hd ht (fun q => kt q G p la e R s m args below meth c Fin mc ms C rt hmc hms H locs cells slots ls ho hl hq h1 h2) (fun q => kf q G p la e R s m args below meth c Fin mc ms C rt hmc hms H locs cells slots ls ho hl hq h1 h2)
theorem e_if_lt {x : Int32} {off : Int} {tgt : Nat} (hd : decode y.2.1 pc = .ok (.ifCond .lt off, 3)) (ht : (pc : Int) + off = (tgt : Int)) (kt : x < 0 → x_E y d kc ks tgt l st h Q) (kf : ¬ x < 0 → x_E y d kc ks (pc + 3) l st h Q) : x_E y d kc ks pc l (.int x :: st) h Q :=
  fun G p la e R s m args below meth c Fin mc ms C rt hmc hms H locs cells slots ls ho hl hq h1 h2 => lv_if_lt C.1 C.2.1 hd ht (fun q => kt q G p la e R s m args below meth c Fin mc ms C rt hmc hms H locs cells slots ls ho hl hq h1 h2) (fun q => kf q G p la e R s m args below meth c Fin mc ms C rt hmc hms H locs cells slots ls ho hl hq h1 h2)
theorem e_icmp_lt {x z : Int32} {off : Int} {tgt : Nat} (hd : decode y.2.1 pc = .ok (.if_icmp .lt off, 3)) (ht : (pc : Int) + off = (tgt : Int)) (kt : x < z → x_E y d kc ks tgt l st h Q) (kf : ¬ x < z → x_E y d kc ks (pc + 3) l st h Q) : x_E y d kc ks pc l (.int z :: .int x :: st) h Q :=
  fun G p la e R s m args below meth c Fin mc ms C rt hmc hms H locs cells slots ls ho hl hq h1 h2 => lv_icmp_lt C.1 C.2.1 hd ht (fun q => kt q G p la e R s m args below meth c Fin mc ms C rt hmc hms H locs cells slots ls ho hl hq h1 h2) (fun q => kf q G p la e R s m args below meth c Fin mc ms C rt hmc hms H locs cells slots ls ho hl hq h1 h2)
theorem e_if_ge {x : Int32} {off : Int} {tgt : Nat} (hd : decode y.2.1 pc = .ok (.ifCond .ge off, 3)) (ht : (pc : Int) + off = (tgt : Int)) (kt : 0 ≤ x → x_E y d kc ks tgt l st h Q) (kf : ¬ 0 ≤ x → x_E y d kc ks (pc + 3) l st h Q) : x_E y d kc ks pc l (.int x :: st) h Q :=
  fun G p la e R s m args below meth c Fin mc ms C rt hmc hms H locs cells slots ls ho hl hq h1 h2 => lv_if_ge C.1 C.2.1 hd ht (fun q => kt q G p la e R s m args below meth c Fin mc ms C rt hmc hms H locs cells slots ls ho hl hq h1 h2) (fun q => kf q G p la e R s m args below meth c Fin mc ms C rt hmc hms H locs cells slots ls ho hl hq h1 h2)
theorem e_icmp_ge {x z : Int32} {off : Int} {tgt : Nat} (hd : decode y.2.1 pc = .ok (.if_icmp .ge off, 3)) (ht : (pc : Int) + off = (tgt : Int)) (kt : z ≤ x → x_E y d kc ks tgt l st h Q) (kf : ¬ z ≤ x → x_E y d kc ks (pc + 3) l st h Q) : x_E y d kc ks pc l (.int z :: .int x :: st) h Q :=
  fun G p la e R s m args below meth c Fin mc ms C rt hmc hms H locs cells slots ls ho hl hq h1 h2 => lv_icmp_ge C.1 C.2.1 hd ht (fun q => kt q G p la e R s m args below meth c Fin mc ms C rt hmc hms H locs cells slots ls ho hl hq h1 h2) (fun q => kf q G p la e R s m args below meth c Fin mc ms C rt hmc hms H locs cells slots ls ho hl hq h1 h2)
theorem e_if_gt {x : Int32} {off : Int} {tgt : Nat} (hd : decode y.2.1 pc = .ok (.ifCond .gt off, 3)) (ht : (pc : Int) + off = (tgt : Int)) (kt : 0 < x → x_E y d kc ks tgt l st h Q) (kf : ¬ 0 < x → x_E y d kc ks (pc + 3) l st h Q) : x_E y d kc ks pc l (.int x :: st) h Q :=
  fun G p la e R s m args below meth c Fin mc ms C rt hmc hms H locs cells slots ls ho hl hq h1 h2 => lv_if_gt C.1 C.2.1 hd ht (fun q => kt q G p la e R s m args below meth c Fin mc ms C rt hmc hms H locs cells slots ls ho hl hq h1 h2) (fun q => kf q G p la e R s m args below meth c Fin mc ms C rt hmc hms H locs cells slots ls ho hl hq h1 h2)
theorem e_icmp_gt {x z : Int32} {off : Int} {tgt : Nat} (hd : decode y.2.1 pc = .ok (.if_icmp .gt off, 3)) (ht : (pc : Int) + off = (tgt : Int)) (kt : z < x → x_E y d kc ks tgt l st h Q) (kf : ¬ z < x → x_E y d kc ks (pc + 3) l st h Q) : x_E y d kc ks pc l (.int z :: .int x :: st) h Q :=
  fun G p la e R s m args below meth c Fin mc ms C rt hmc hms H locs cells slots ls ho hl hq h1 h2 => lv_icmp_gt C.1 C.2.1 hd ht (fun q => kt q G p la e R s m args below meth c Fin mc ms C rt hmc hms H locs cells slots ls ho hl hq h1 h2) (fun q => kf q G p la e R s m args below meth c Fin mc ms C rt hmc hms H locs cells slots ls ho hl hq h1 h2)
theorem e_if_le {x : Int32} {off : Int} {tgt : Nat} (hd : decode y.2.1 pc = .ok (.ifCond .le off, 3)) (ht : (pc : Int) + off = (tgt : Int)) (kt : x ≤ 0 → x_E y d kc ks tgt l st h Q) (kf : ¬ x ≤ 0 → x_E y d kc ks (pc + 3) l st h Q) : x_E y d kc ks pc l (.int x :: st) h Q :=
  fun G p la e R s m args below meth c Fin mc ms C rt hmc hms H locs cells slots ls ho hl hq h1 h2 => lv_if_le C.1 C.2.1 hd ht (fun q => kt q G p la e R s m args below meth c Fin mc ms C rt hmc hms H locs cells slots ls ho hl hq h1 h2) (fun q => kf q G p la e R s m args below meth c Fin mc ms C rt hmc hms H locs cells slots ls ho hl hq h1 h2)
theorem e_icmp_le {x z : Int32} {off : Int} {tgt : Nat} (hd : decode y.2.1 pc = .ok (.if_icmp .le off, 3)) (ht : (pc : Int) + off = (tgt : Int)) (kt : x ≤ z → x_E y d kc ks tgt l st h Q) (kf : ¬ x ≤ z → x_E y d kc ks (pc + 3) l st h Q) : x_E y d kc ks pc l (.int z :: .int x :: st) h Q :=
  fun G p la e R s m args below meth c Fin mc ms C rt hmc hms H locs cells slots ls ho hl hq h1 h2 => lv_icmp_le C.1 C.2.1 hd ht (fun q => kt q G p la e R s m args below meth c Fin mc ms C rt hmc hms H locs cells slots ls ho hl hq h1 h2) (fun q => kf q G p la e R s m args below meth c Fin mc ms C rt hmc hms H locs cells slots ls ho hl hq h1 h2)
def x_op (G : xG) : Nat → Option Nat
  | 0 => none
  | 1 => some G.1
  | a + 2 => some (G.2.1 + a)
theorem x_op_rf (G : xG) (a : Nat) : x_sh G (.ref a) = va_rf (x_op G a) := by
  match a with
  | 0 => rfl
  | 1 => rfl
  | a + 2 => rfl
theorem x_op_inj {G : xG} (hg : G.1 < G.2.1) {a b : Nat} : x_op G a = x_op G b ↔ a = b := by
  match a, b with
  | 0, 0 => simp
  | 0, 1 => simp [x_op]
  | 0, b + 2 => simp [x_op]
  | 1, 0 => simp [x_op]
  | 1, 1 => simp
  | 1, b + 2 => simp [x_op]; omega
  | a + 2, 0 => simp [x_op]
  | a + 2, 1 => simp [x_op]; omega
  | a + 2, b + 2 => simp [x_op]
theorem e_acmp_eq {x z : Nat} {off : Int} {tgt : Nat} (hd : decode y.2.1 pc = .ok (.if_acmp .eq off, 3)) (ht : (pc : Int) + off = (tgt : Int)) (kt : x = z → x_E y d kc ks tgt l st h Q) (kf : ¬ x = z → x_E y d kc ks (pc + 3) l st h Q) : x_E y d kc ks pc l (.ref z :: .ref x :: st) h Q := by
  intro G p la e R s m args below meth c Fin mc ms C rt hmc hms H locs cells slots ls ho hl hq h1 h2
  show W p la e R s m args below meth c H locs cells slots Fin (F0 m pc ls (x_sh G (.ref z) :: x_sh G (.ref x) :: st.map (x_sh G)))
  rw [x_op_rf, x_op_rf]
  exact lv_acmp_eq (rx := x_op G x) (ry := x_op G z) C.1 C.2.1 hd ht (fun q => kt ((x_op_inj C.2.2.2.2.2.2.2.2.2.2.2).mp q) G p la e R s m args below meth c Fin mc ms C rt hmc hms H locs cells slots ls ho hl hq h1 h2) (fun q => kf (fun e => q (by rw [e])) G p la e R s m args below meth c Fin mc ms C rt hmc hms H locs cells slots ls ho hl hq h1 h2)
theorem e_acmp_ne {x z : Nat} {off : Int} {tgt : Nat} (hd : decode y.2.1 pc = .ok (.if_acmp .ne off, 3)) (ht : (pc : Int) + off = (tgt : Int)) (kt : ¬ x = z → x_E y d kc ks tgt l st h Q) (kf : x = z → x_E y d kc ks (pc + 3) l st h Q) : x_E y d kc ks pc l (.ref z :: .ref x :: st) h Q := by
  intro G p la e R s m args below meth c Fin mc ms C rt hmc hms H locs cells slots ls ho hl hq h1 h2
  show W p la e R s m args below meth c H locs cells slots Fin (F0 m pc ls (x_sh G (.ref z) :: x_sh G (.ref x) :: st.map (x_sh G)))
  rw [x_op_rf, x_op_rf]
  exact lv_acmp_ne (rx := x_op G x) (ry := x_op G z) C.1 C.2.1 hd ht (fun q => kt (fun e => q (by rw [e])) G p la e R s m args below meth c Fin mc ms C rt hmc hms H locs cells slots ls ho hl hq h1 h2) (fun q => kf ((x_op_inj C.2.2.2.2.2.2.2.2.2.2.2).mp q) G p la e R s m args below meth c Fin mc ms C rt hmc hms H locs cells slots ls ho hl hq h1 h2)
theorem e_ifnull {x : Nat} {off : Int} {tgt : Nat} (hd : decode y.2.1 pc = .ok (.ifnull off, 3)) (ht : (pc : Int) + off = (tgt : Int)) (kt : x = 0 → x_E y d kc ks tgt l st h Q) (kf : ¬ x = 0 → x_E y d kc ks (pc + 3) l st h Q) : x_E y d kc ks pc l (.ref x :: st) h Q := by
  intro G p la e R s m args below meth c Fin mc ms C rt hmc hms H locs cells slots ls ho hl hq h1 h2
  match x, kt, kf with
  | 0, kt, kf => exact lv_ifnullN C.1 C.2.1 hd ht (kt rfl G p la e R s m args below meth c Fin mc ms C rt hmc hms H locs cells slots ls ho hl hq h1 h2)
  | 1, kt, kf => exact lv_ifnull C.1 C.2.1 hd (kf (by omega) G p la e R s m args below meth c Fin mc ms C rt hmc hms H locs cells slots ls ho hl hq h1 h2)
  | a + 2, kt, kf => exact lv_ifnull C.1 C.2.1 hd (kf (by omega) G p la e R s m args below meth c Fin mc ms C rt hmc hms H locs cells slots ls ho hl hq h1 h2)
theorem e_ifnonnull {x : Nat} {off : Int} {tgt : Nat} (hd : decode y.2.1 pc = .ok (.ifnonnull off, 3)) (ht : (pc : Int) + off = (tgt : Int)) (kt : ¬ x = 0 → x_E y d kc ks tgt l st h Q) (kf : x = 0 → x_E y d kc ks (pc + 3) l st h Q) : x_E y d kc ks pc l (.ref x :: st) h Q := by
  intro G p la e R s m args below meth c Fin mc ms C rt hmc hms H locs cells slots ls ho hl hq h1 h2
  match x, kt, kf with
  | 0, kt, kf => exact lv_ifnonnullN C.1 C.2.1 hd (kf rfl G p la e R s m args below meth c Fin mc ms C rt hmc hms H locs cells slots ls ho hl hq h1 h2)
  | 1, kt, kf => exact lv_ifnonnull C.1 C.2.1 hd ht (kt (by omega) G p la e R s m args below meth c Fin mc ms C rt hmc hms H locs cells slots ls ho hl hq h1 h2)
  | a + 2, kt, kf => exact lv_ifnonnull C.1 C.2.1 hd ht (kt (by omega) G p la e R s m args below meth c Fin mc ms C rt hmc hms H locs cells slots ls ho hl hq h1 h2)
theorem e_ldc {idx : Nat} {v : Int32} (hd : decode y.2.1 pc = .ok (.ldc idx, 2)) (hw : Cond.constant y.1.cls idx v ∈ xW0) (k : x_E y d kc ks (pc + 2) l (.int v :: st) h Q) : x_E y d kc ks pc l st h Q :=
  fun G p la e R s m args below meth c Fin mc ms C rt hmc hms H locs cells slots ls ho hl hq h1 h2 => lv_ldc C.1 C.2.1 C.2.2.2.2.1 (C.2.2.2.2.2.1 _ hw) hd (k G p la e R s m args below meth c Fin mc ms C rt hmc hms H locs cells slots ls ho hl hq h1 h2)
theorem e_ldc2 {idx : Nat} {v : Int64} (hd : decode y.2.1 pc = .ok (.ldc2_w idx, 3)) (hw : Cond.constantLong y.1.cls idx v ∈ xW0) (k : x_E y d kc ks (pc + 3) l (.long v :: st) h Q) : x_E y d kc ks pc l st h Q :=
  fun G p la e R s m args below meth c Fin mc ms C rt hmc hms H locs cells slots ls ho hl hq h1 h2 => lv_ldc2 C.1 C.2.1 C.2.2.2.2.1 (C.2.2.2.2.2.1 _ hw) hd (k G p la e R s m args below meth c Fin mc ms C rt hmc hms H locs cells slots ls ho hl hq h1 h2)
theorem e_tableIn {dflt lo hi : Int} {offs : Array Int} {len : Nat} {x : Int32} {off : Int} {tgt : Nat} (hd : decode y.2.1 pc = .ok (.tableswitch dflt lo hi offs, len)) (g1 : ¬ x.toInt < lo) (g2 : ¬ hi < x.toInt) (hof : offs[(x.toInt - lo).toNat]? = some off) (ht : (pc : Int) + off = (tgt : Int)) (k : x_E y d kc ks tgt l st h Q) : x_E y d kc ks pc l (.int x :: st) h Q :=
  fun G p la e R s m args below meth c Fin mc ms C rt hmc hms H locs cells slots ls ho hl hq h1 h2 => lv_tableIn C.1 C.2.1 hd g1 g2 hof ht (k G p la e R s m args below meth c Fin mc ms C rt hmc hms H locs cells slots ls ho hl hq h1 h2)
theorem e_tableOut {dflt lo hi : Int} {offs : Array Int} {len : Nat} {x : Int32} {tgt : Nat} (hd : decode y.2.1 pc = .ok (.tableswitch dflt lo hi offs, len)) (g1 : x.toInt < lo ∨ hi < x.toInt) (ht : (pc : Int) + dflt = (tgt : Int)) (k : x_E y d kc ks tgt l st h Q) : x_E y d kc ks pc l (.int x :: st) h Q :=
  fun G p la e R s m args below meth c Fin mc ms C rt hmc hms H locs cells slots ls ho hl hq h1 h2 => lv_tableOut C.1 C.2.1 hd g1 ht (k G p la e R s m args below meth c Fin mc ms C rt hmc hms H locs cells slots ls ho hl hq h1 h2)
theorem e_lookup {dflt : Int} {ps : Array (Int × Int)} {len : Nat} {x : Int32} {off : Int} {tgt : Nat} (hd : decode y.2.1 pc = .ok (.lookupswitch dflt ps, len)) (hp : (ps.toList.zip (ps.toList.drop 1)).all (fun (a, next) => a.1 < next.1) = true) (hof : Op.lookupswitch.offset ps.toList dflt x.toInt = off) (ht : (pc : Int) + off = (tgt : Int)) (k : x_E y d kc ks tgt l st h Q) : x_E y d kc ks pc l (.int x :: st) h Q :=
  fun G p la e R s m args below meth c Fin mc ms C rt hmc hms H locs cells slots ls ho hl hq h1 h2 => lv_lookup C.1 C.2.1 hd hp hof ht (k G p la e R s m args below meth c Fin mc ms C rt hmc hms H locs cells slots ls ho hl hq h1 h2)
theorem e_ret (hd : decode y.2.1 pc = .ok (.return_, 1)) (hr : y.2.2.2 = none) (q : Q [] h) : x_E y d kc ks pc l [] h Q :=
  fun G p la e R s m args below meth c Fin mc ms C rt hmc hms H locs cells slots ls ho hl hq h1 h2 => W.widen (Nat.le_trans (Nat.le_add_right _ _) h1) (Nat.le_trans (Nat.le_add_right _ _) h2) (rt [] h H locs pc ls q ho hq (Or.inl ⟨rfl, hr, hd⟩))
theorem e_iret {v : Int32} {ty : FieldType} (hd : decode y.2.1 pc = .ok (.ireturn, 1)) (hr : y.2.2.2 = some ty) (hn : narrow ty (.int v) = .int v) (q : Q [.int v] h) : x_E y d kc ks pc l [.int v] h Q :=
  fun G p la e R s m args below meth c Fin mc ms C rt hmc hms H locs cells slots ls ho hl hq h1 h2 => W.widen (Nat.le_trans (Nat.le_add_right _ _) h1) (Nat.le_trans (Nat.le_add_right _ _) h2) (rt [.int v] h H locs pc ls q ho hq (Or.inr (Or.inl ⟨v, ty, rfl, hr, hn, hd⟩)))
theorem e_lret {v : Int64} (hd : decode y.2.1 pc = .ok (.lreturn, 1)) (hr : y.2.2.2 = some .long) (q : Q [.long v] h) : x_E y d kc ks pc l [.long v] h Q :=
  fun G p la e R s m args below meth c Fin mc ms C rt hmc hms H locs cells slots ls ho hl hq h1 h2 => W.widen (Nat.le_trans (Nat.le_add_right _ _) h1) (Nat.le_trans (Nat.le_add_right _ _) h2) (rt [.long v] h H locs pc ls q ho hq (Or.inr (Or.inr (Or.inl ⟨v, rfl, hr, hd⟩))))
theorem e_aret {a : Nat} {rt0 : FieldType} (hd : decode y.2.1 pc = .ok (.areturn, 1)) (hr : y.2.2.2 = some rt0) (hn : (∃ n, rt0 = .object n) ∨ ∃ t, rt0 = .array t) (q : Q [.ref a] h) : x_E y d kc ks pc l [.ref a] h Q :=
  fun G p la e R s m args below meth c Fin mc ms C rt hmc hms H locs cells slots ls ho hl hq h1 h2 => W.widen (Nat.le_trans (Nat.le_add_right _ _) h1) (Nat.le_trans (Nat.le_add_right _ _) h2) (rt [.ref a] h H locs pc ls q ho hq (Or.inr (Or.inr (Or.inr ⟨a, rt0, rfl, hr, hn, hd⟩))))
end XR
section XH
variable {y : xM} {d kc ks pc : Nat} {l : List (Nat × Value)} {st : List Value} {h : xH} {Q : List Value → xH → Prop}
def x_Fd (own : String) (idx ci k : Nat) (ty : FieldType) (fin : Bool) : Prop := ∃ r : vw_C, xCl[ci]? = some r ∧ k < r.2.2 ∧ Cond.fieldLink own idx (r.2.1 k).1 (r.2.1 k).2.1 (r.2.1 k).2.2.1 ∈ xW0 ∧ parseFieldDescriptor (r.2.1 k).2.2.1 = some ty ∧ (r.2.1 k).2.2.2 = fin ∧ (r.2.1 k).1 = r.1
def x_ok (ty : FieldType) (v : Value) : Prop := match v with
  | .ref _ => (∃ n, ty = .object n) ∨ ∃ t, ty = .array t
  | v => narrow ty v = v ∧ fits ty v = true
theorem x_fit (G : xG) {ty : FieldType} {v : Value} (h : x_ok ty v) : narrow ty (x_sh G v) = x_sh G v ∧ fits ty (x_sh G v) = true := by
  cases v with
  | ref a =>
    rcases h with ⟨n, rfl⟩ | ⟨t, rfl⟩
    · match a with
      | 0 => exact ⟨rfl, rfl⟩
      | 1 => exact ⟨rfl, rfl⟩
      | a + 2 => exact ⟨rfl, rfl⟩
    · match a with
      | 0 => exact ⟨rfl, rfl⟩
      | 1 => exact ⟨rfl, rfl⟩
      | a + 2 => exact ⟨rfl, rfl⟩
  | int x => exact h
  | long x => exact h
  | float x => exact h
  | double x => exact h
  | null => exact h
  | retAddr x => exact h
theorem x_updset (G : xG) {fs : List Value} {k : Nat} (hk : k < fs.length) (v : Value) (j : Nat) : updV (fun j => x_sh G (fs.getD j .null)) k (x_sh G v) j = x_sh G ((fs.set k v).getD j .null) := by
  unfold updV
  by_cases e : j = k
  · subst e
    simp [List.getD_eq_getElem?_getD, hk]
  · rw [if_neg e]
    simp [List.getD_eq_getElem?_getD, List.getElem?_set_ne (Ne.symm e)]
theorem x_two {h : xH} {G : xG} {H : Heap} (ho : x_Ho G h H) : x_sh G (.ref h.1) = .ref H.size ∧ G.2.1 + (h.1 - 2) = H.size := by
  obtain ⟨o1, o2, -, -⟩ := ho
  obtain ⟨n, hn⟩ : ∃ n, h.1 = n + 2 := ⟨h.1 - 2, by omega⟩
  rw [hn] at o1 ⊢
  constructor
  · exact congrArg Value.ref (show (G.2.1 + n : Nat) = H.size by omega)
  · omega
theorem x_lt {k : Nat} {ty : FieldType} (h : xTy[k]? = some ty) : k < 5 := (List.getElem?_eq_some_iff.mp h).1
theorem e_get {idx ci k a : Nat} {ty : FieldType} {fin : Bool} {fs : List Value} {v : Value} (hd : decode y.2.1 pc = .ok (.getfield idx, 3)) (hF : x_Fd y.1.cls idx ci k ty fin) (ha : h.2 a = some (.inr (ci, fs))) (hv : fs[k]? = some v) (kk : x_E y d kc ks (pc + 3) l (v :: st) h Q) : x_E y d kc ks pc l (.ref a :: st) h Q := by
  intro G p la e R s m args below meth c Fin mc ms C rt hmc hms H locs cells slots ls ho hl hq h1 h2
  obtain ⟨r, hr, hk, hw, -, -, -⟩ := hF
  obtain ⟨a2, al, r', hr', hn, cell, q1, q2, q3, q4⟩ := ho.at ha trivial
  have er : r = r' := Option.some.inj (hr.symm.trans hr')
  subst er
  obtain ⟨b, rfl⟩ : ∃ b, a = b + 2 := ⟨a - 2, by omega⟩
  rw [Nat.add_sub_cancel] at q1
  have hts := C.2.2.2.2.2.1
  obtain ⟨hS, hfc, kC, hkC, hkind⟩ := C.2.2.2.2.2.2.1.1.1.1 ci _ hr
  obtain ⟨cf, kf, fi, f, hi, hsl⟩ := hS k hk
  refine W.getf C.1 C.2.1 C.2.2.2.2.1 (hts _ hw) hi (u_facts hfc hkC (u_lays hts (x_clok ci r hr).1 hk) hi).1 q1 (by rw [q3]; exact fun h => by cases h) (v := x_sh G v) ?_ rfl rfl hd (kk G p la e R s m args below meth c Fin mc ms C rt hmc hms H locs cells slots ls ho hl hq h1 h2)
  rw [hsl, q4 k hk]
  simp [List.getD_eq_getElem?_getD, hv]
theorem e_put {idx ci k a : Nat} {ty : FieldType} {fs : List Value} {v : Value} (hd : decode y.2.1 pc = .ok (.putfield idx, 3)) (hF : x_Fd y.1.cls idx ci k ty false) (ha : h.2 a = some (.inr (ci, fs))) (hv : x_ok ty v) (kk : x_E y d kc ks (pc + 3) l st (x_up h a (.inr (ci, fs.set k v))) Q) : x_E y d kc ks pc l (v :: .ref a :: st) h Q := by
  intro G p la e R s m args below meth c Fin mc ms C rt hmc hms H locs cells slots ls ho hl hq h1 h2
  obtain ⟨r, hr, hk, hw, hty, hfin, -⟩ := hF
  have hho := ho.at ha trivial
  obtain ⟨a2, al, r', hr', hn, cell, q1, q2, q3, q4⟩ := hho
  have er : r = r' := Option.some.inj (hr.symm.trans hr')
  subst er
  obtain ⟨b, rfl⟩ : ∃ b, a = b + 2 := ⟨a - 2, by omega⟩
  rw [Nat.add_sub_cancel] at q1
  have hts := C.2.2.2.2.2.1
  obtain ⟨hin, htys, hnm⟩ := x_clok ci r hr
  have hap := va_apart (own := "") hts hin (fun k => (parseFieldDescriptor (r.2.1 k).2.2.1).getD .int) (fun k hk => by obtain ⟨t, e⟩ := htys k hk; rw [e]; rfl) hnm C.2.2.2.2.2.2.1.1.1 hr
  obtain ⟨hS, hfc, kC, hkC, hkind⟩ := C.2.2.2.2.2.2.1.1.1.1 ci _ hr
  obtain ⟨cf, kf, fi, f, hi, hsl⟩ := hS k hk
  have hlay := hts _ (hin _ (u_in_lay hk))
  unfold u_lay at hlay
  rw [if_neg (by rw [hfin]; decide)] at hlay
  have hst := (u_facts hfc hkC (u_lays hts hin hk) hi).1
  have h6 := u_store hfc hkC hkind hlay hi hty (x_fit G hv).1 (x_fit G hv).2
  refine W.putK C.1 C.2.1 (f := f) ⟨C.2.2.2.2.1, hts _ hw, ⟨_, _, _, hi⟩, hst⟩ (by rw [q2]; exact h6) q1 q3 (by rw [hsl]; exact k2_hasslot (q4 k hk)) rfl rfl hd fun H' e1 e2 e3 => ?_
  rw [hsl] at e1 ⊢
  have ho' : x_Ho G (x_up h (b + 2) (.inr (ci, fs.set k v))) H' := by
    refine ho.put C.2.2.2.2.2.2.2.2.2.2.2 ha trivial e2 (fun q hq => e3 q (by rw [Nat.add_sub_cancel] at hq; exact hq)) ⟨r, hr, by simp only [List.length_set]; exact hn, ?_⟩
    rw [Nat.add_sub_cancel]
    refine t_OB.to (V := updV (fun j => x_sh G (fs.getD j .null)) k (x_sh G v)) ⟨_, e1, q2, q3, t_set q4 hap hk _⟩ (fun j _ => x_updset G (by rw [hn]; exact hk) v j)
  refine kk G p la e R s m args below meth c Fin mc ms C rt hmc hms H' _ cells slots ls ho' hl (fun q hq' => ?_) h1 h2
  rcases List.mem_append.mp hq' with h7 | h7
  · exact hq q h7
  · rw [List.mem_singleton.mp h7]; exact Nat.le_add_right _ _
theorem e_putF {idx ci k a : Nat} {ty : FieldType} {fs : List Value} {v : Value} (hd : decode y.2.1 pc = .ok (.putfield idx, 3)) (hF : x_Fd y.1.cls idx ci k ty true) (hcl : (xCl[ci]?).map (fun r => r.1) = some y.1.cls) (hini : y.1.name = "<init>") (ha : h.2 a = some (.inr (ci, fs))) (hv : x_ok ty v) (kk : x_E y d kc ks (pc + 3) l st (x_up h a (.inr (ci, fs.set k v))) Q) : x_E y d kc ks pc l (v :: .ref a :: st) h Q := by
  intro G p la e R s m args below meth c Fin mc ms C rt hmc hms H locs cells slots ls ho hl hq h1 h2
  obtain ⟨r, hr, hk, hw, hty, hfin, hown⟩ := hF
  have hho := ho.at ha trivial
  obtain ⟨a2, al, r', hr', hn, cell, q1, q2, q3, q4⟩ := hho
  have er : r = r' := Option.some.inj (hr.symm.trans hr')
  subst er
  rw [hr] at hcl
  have hcl : r.1 = y.1.cls := Option.some.inj hcl
  obtain ⟨b, rfl⟩ : ∃ b, a = b + 2 := ⟨a - 2, by omega⟩
  rw [Nat.add_sub_cancel] at q1
  have hts := C.2.2.2.2.2.1
  obtain ⟨hin, htys, hnm⟩ := x_clok ci r hr
  have hap := va_apart (own := "") hts hin (fun k => (parseFieldDescriptor (r.2.1 k).2.2.1).getD .int) (fun k hk => by obtain ⟨t, e⟩ := htys k hk; rw [e]; rfl) hnm C.2.2.2.2.2.2.1.1.1 hr
  obtain ⟨hS, hfc, kC, hkC, hkind⟩ := C.2.2.2.2.2.2.1.1.1.1 ci _ hr
  obtain ⟨cf, kf, fi, f, hi, hsl⟩ := hS k hk
  have hlay := hts _ (hin _ (u_in_lay hk))
  unfold u_lay at hlay
  rw [if_pos hfin] at hlay
  have hst := (u_facts hfc hkC (u_lays hts hin hk) hi).1
  have hcf : m.cls = cf := by
    obtain ⟨_, _, c', _, _, _, -, -, hf', -, -, -, hown2, -⟩ := Cond.laysFinal_spec hlay
    have e1 : c' = cf := by have := hi.symm.trans hf'; simp at this; exact this.1.symm
    rw [hown, hcl] at hown2
    rw [← e1]; exact Option.some.inj (C.2.2.2.2.1.symm.trans hown2)
  have h6 := u_fits hfc hkC hkind (Or.inr hlay) hi hty (x_fit G hv).1 (x_fit G hv).2
  refine W.putFinK C.1 C.2.1 C.2.2.2.2.1 (hts _ hw) hi hst hcf (C.2.2.2.2.2.2.2.2.1.trans hini) (by rw [q2]; exact h6) q1 q3 (by rw [hsl]; exact k2_hasslot (q4 k hk)) rfl rfl hd fun H' e1 e2 e3 => ?_
  rw [hsl] at e1 ⊢
  have ho' : x_Ho G (x_up h (b + 2) (.inr (ci, fs.set k v))) H' := by
    refine ho.put C.2.2.2.2.2.2.2.2.2.2.2 ha trivial e2 (fun q hq => e3 q (by rw [Nat.add_sub_cancel] at hq; exact hq)) ⟨r, hr, by simp only [List.length_set]; exact hn, ?_⟩
    rw [Nat.add_sub_cancel]
    refine t_OB.to (V := updV (fun j => x_sh G (fs.getD j .null)) k (x_sh G v)) ⟨_, e1, q2, q3, t_set q4 hap hk _⟩ (fun j _ => x_updset G (by rw [hn]; exact hk) v j)
  refine kk G p la e R s m args below meth c Fin mc ms C rt hmc hms H' _ cells slots ls ho' hl (fun q hq' => ?_) h1 h2
  rcases List.mem_append.mp hq' with h7 | h7
  · exact hq q h7
  · rw [List.mem_singleton.mp h7]; exact Nat.le_add_right _ _
def x_df (ty : FieldType) : Value := match ty with
  | .object _ => .ref 0
  | .array _ => .ref 0
  | ty => defaultValue ty
theorem x_dfs (G : xG) (ty : FieldType) : x_sh G (x_df ty) = defaultValue ty := by cases ty <;> rfl
def x_Nw (own : String) (idx ci : Nat) (fs : List Value) : Prop := ∃ r : vw_C, xCl[ci]? = some r ∧ Cond.classLink own idx r.1 ∈ xW0 ∧ Cond.instantiable r.1 r.2.2 ∈ xW0 ∧ Cond.initialized r.1 ∈ xW0 ∧ fs.length = r.2.2 ∧ ∀ k, k < r.2.2 → (parseFieldDescriptor (r.2.1 k).2.2.1).map x_df = some (fs.getD k .null)
theorem e_new {idx ci kc' ks' : Nat} {fs : List Value} (hd : decode y.2.1 pc = .ok (.new idx, 3)) (hN : x_Nw y.1.cls idx ci fs) (hkc : kc' + 1 = kc) (hks : ks' + fs.length = ks) (kk : x_E y d kc' ks' (pc + 3) l (.ref h.1 :: st) (x_nw h (.inr (ci, fs))) Q) : x_E y d kc ks pc l st h Q := by
  intro G p la e R s m args below meth c Fin mc ms C rt hmc hms H locs cells slots ls ho hl hq h1 h2
  obtain ⟨r, hr, w1, w2, w3, hlen, hfs⟩ := hN
  have hts := C.2.2.2.2.2.1
  have hKn := C.2.2.2.2.2.2.1.1.1.1 ci _ hr
  obtain ⟨e1, e2⟩ := x_two ho
  obtain ⟨hin, htys, hnm⟩ := x_clok ci r hr
  refine W.newcK C.1 C.2.1 C.2.2.2.2.1 (hts _ w1) (hts _ w2) (hts _ w3) rfl hd (by omega) (by omega) hKn.2.1 rfl fun H1 kC hkC g1 z1 o1 => ?_
  have ho' : x_Ho G (x_nw h (.inr (ci, fs))) H1 := by
    refine ho.new C.2.2.2.2.2.2.2.2.2.2.2 z1 o1 ⟨r, hr, hlen, ?_⟩
    rw [e2]
    refine (u_born (fun k => (parseFieldDescriptor (r.2.1 k).2.2.1).getD .int) hts hin hKn hkC g1 (fun k hk => by obtain ⟨t, e⟩ := htys k hk; rw [e]; rfl)).to (fun k hk => ?_)
    have e3 := hfs k hk
    obtain ⟨t, e⟩ := htys k hk
    simp only [e, Option.map_some, Option.some.injEq] at e3
    simp only [e, Option.getD_some, ← e3, x_dfs]
  have k2 := kk G p la e R s m args below meth c Fin mc ms C rt hmc hms H1 locs (cells + 1) (slots + r.2.2) ls ho' hl hq (by omega) (by omega)
  rw [List.map_cons, e1] at k2
  exact k2
theorem x_arrV {cA : ClassId} {n : Nat} {f g : Nat → Value} (h : ∀ j, j < n → f j = g j) : arrV cA n f = arrV cA n g := by
  unfold arrV
  congr 2
  funext j
  exact h j.val j.isLt
theorem x_repl (G : xG) (ty : FieldType) (N : Nat) {cA : ClassId} : arrV cA N (fun _ => defaultValue ty) = arrV cA (List.replicate N (x_df ty)).length (fun j => x_sh G ((List.replicate N (x_df ty)).getD j .null)) := by
  rw [List.length_replicate]
  refine x_arrV fun j hj => ?_
  simp [List.getD_eq_getElem?_getD, hj, x_dfs]
theorem e_newa {kc' ks' k N : Nat} {atype : ArrayType} {n : Int32} (hd : decode y.2.1 pc = .ok (.newarray atype, 2)) (hk : xTy[k]? = some (newarray.typeOf atype)) (hw : Cond.arrayClass (newarray.typeOf atype) ∈ xW0) (hn : n = nI N) (hN : N ≤ 65536) (hkc : kc' + 1 = kc) (hks : ks' + N = ks)
    (kk : x_E y d kc' ks' (pc + 2) l (.ref h.1 :: st) (x_nw h (.inl (k, List.replicate N (x_df (newarray.typeOf atype))))) Q) : x_E y d kc ks pc l (.int n :: st) h Q := by
  intro G p la e R s m args below meth c Fin mc ms C rt hmc hms H locs cells slots ls ho hl hq h1 h2
  have hts := C.2.2.2.2.2.1
  obtain ⟨e1, e2⟩ := x_two ho
  have hNn : n.toNatClampNeg = N := by rw [hn]; exact nI_clamp (by omega)
  refine va_newaK C.1 C.2.1 (hts _ hw) rfl hd rfl (by rw [hn]; exact nI_pos (by omega)) hNn (by cases atype <;> simp [newarray.typeOf, componentBytes] <;> omega) (by omega) (by omega) rfl fun H1 cA g1 z1 o1 hAr hNm => ?_
  have hcA : cA = G.2.2.2.2 k := by
    have h3 := (C.2.2.2.2.2.2.1.2 k _ hk).2.1
    have h4 : s.vm.findClass ("[" ++ (newarray.typeOf atype).toString) = some (G.2.2.2.2 k) := by cases atype <;> exact h3
    exact Option.some.inj (hNm.symm.trans h4)
  subst hcA
  have ho' : x_Ho G (x_nw h (.inl (k, List.replicate N (x_df (newarray.typeOf atype))))) H1 := by
    refine ho.new C.2.2.2.2.2.2.2.2.2.2.2 z1 o1 ⟨by simp only [List.length_replicate]; omega, ?_⟩
    rw [e2, g1, x_repl G]
  have k2 := kk G p la e R s m args below meth c Fin mc ms C rt hmc hms H1 locs (cells + 1) (slots + N) ls ho' hl hq (by omega) (by omega)
  rw [List.map_cons, e1] at k2
  exact k2
theorem e_newq {kc' ks' k N idx : Nat} {Cn : String} {n : Int32} (hd : decode y.2.1 pc = .ok (.anewarray idx, 3)) (hk : xTy[k]? = some (.object Cn)) (hw : Cond.classLink y.1.cls idx Cn ∈ xW0) (hn : n = nI N) (hN : N ≤ 65536) (hkc : kc' + 1 = kc) (hks : ks' + N = ks)
    (kk : x_E y d kc' ks' (pc + 3) l (.ref h.1 :: st) (x_nw h (.inl (k, List.replicate N (.ref 0)))) Q) : x_E y d kc ks pc l (.int n :: st) h Q := by
  intro G p la e R s m args below meth c Fin mc ms C rt hmc hms H locs cells slots ls ho hl hq h1 h2
  have hts := C.2.2.2.2.2.1
  obtain ⟨e1, e2⟩ := x_two ho
  obtain ⟨hAr, hRA, hAO⟩ := C.2.2.2.2.2.2.1.2 k _ hk
  have hNn : n.toNatClampNeg = N := by rw [hn]; exact nI_clamp (by omega)
  refine W.anew C.1 C.2.1 C.2.2.2.2.1 (hts _ hw) (va_AO.use (hAO Cn rfl)) rfl hd rfl (by rw [hn]; exact nI_pos (by omega)) (by rw [hNn]; omega) (by omega) (by rw [hNn]; omega) fun cA kA comp f1 f2 f3 f4 => ?_
  rw [hNn]
  generalize hH1 : H.push ({ cls := cA, slots := Array.replicate N .null, vm := .none } : Cell) = H1
  have z1 : H1.size = H.size + 1 := by rw [← hH1, Array.size_push]
  have g1 : H1[H.size]? = some (arrV cA N (fun _ => .null)) := by rw [← hH1, Array.getElem?_push_size, ← arrV_new]
  have o1 : ∀ q : Nat, q < H.size → H1[q]? = H[q]? := fun q hq => by rw [← hH1, Array.getElem?_push, if_neg (Nat.ne_of_lt hq)]
  have hcA : cA = G.2.2.2.2 k := by
    obtain ⟨kA', comp', k1, k2, k3, k4⟩ := hRA
    exact Option.some.inj (f1.symm.trans k4)
  subst hcA
  have ho' : x_Ho G (x_nw h (.inl (k, List.replicate N (.ref 0)))) H1 := by
    refine ho.new C.2.2.2.2.2.2.2.2.2.2.2 z1 o1 ⟨by simp only [List.length_replicate]; omega, ?_⟩
    rw [e2, g1]
    exact congrArg some (x_repl G (.object Cn) N)
  have k2 := kk G p la e R s m args below meth c Fin mc ms C rt hmc hms H1 locs (cells + 1) (slots + N) ls ho' hl hq (by omega) (by omega)
  rw [List.map_cons, e1] at k2
  exact k2
theorem e_alen {k a : Nat} {vs : List Value} {n : Int32} (hd : decode y.2.1 pc = .ok (.arraylength, 1)) (ha : h.2 a = some (.inl (k, vs))) (hk0 : k < 5) (hn : n = nI vs.length) (kk : x_E y d kc ks (pc + 1) l (.int n :: st) h Q) : x_E y d kc ks pc l (.ref a :: st) h Q := by
  intro G p la e R s m args below meth c Fin mc ms C rt hmc hms H locs cells slots ls ho hl hq h1 h2
  obtain ⟨ty, hk⟩ : ∃ ty, xTy[k]? = some ty := ⟨_, List.getElem?_eq_getElem (show k < xTy.length from hk0)⟩
  obtain ⟨a2, al, hlen, q1⟩ := ho.at ha (x_lt hk)
  obtain ⟨b, rfl⟩ : ∃ b, a = b + 2 := ⟨a - 2, by omega⟩
  rw [Nat.add_sub_cancel] at q1
  exact W.alen (n := n) C.1 C.2.1 q1 ((C.2.2.2.2.2.2.1.2 k ty hk).1 _ _) (by rw [arrV_size, hn]; rfl) rfl rfl hd (kk G p la e R s m args below meth c Fin mc ms C rt hmc hms H locs cells slots ls ho hl hq h1 h2)
theorem x_arin {vs : List Value} {i : Int32} {j : Nat} {v : Value} {cA : ClassId} {f : Nat → Value} (hlen : vs.length < 2147483648) (hi : i = nI j) (hv : vs[j]? = some v) : ¬ (i < 0 ∨ (arrV cA vs.length f).slots.size ≤ i.toNatClampNeg) ∧ i.toNatClampNeg = j ∧ j < vs.length := by
  have hj : j < vs.length := (List.getElem?_eq_some_iff.mp hv).1
  rw [arrV_size, hi]
  exact ⟨nI_in hj hlen, nI_clamp (by omega), hj⟩
theorem e_iald {k a j : Nat} {vs : List Value} {i : Int32} {v : Value} (hd : decode y.2.1 pc = .ok (.iaload, 1)) (ha : h.2 a = some (.inl (k, vs))) (hk : xTy[k]? = some .int) (hi : i = nI j) (hv : vs[j]? = some v) (kk : x_E y d kc ks (pc + 1) l (v :: st) h Q) : x_E y d kc ks pc l (.int i :: .ref a :: st) h Q := by
  intro G p la e R s m args below meth c Fin mc ms C rt hmc hms H locs cells slots ls ho hl hq h1 h2
  obtain ⟨a2, al, hlen, q1⟩ := ho.at ha (x_lt hk)
  obtain ⟨b, rfl⟩ : ∃ b, a = b + 2 := ⟨a - 2, by omega⟩
  rw [Nat.add_sub_cancel] at q1
  obtain ⟨i1, i2, i3⟩ := x_arin (cA := G.2.2.2.2 k) (f := fun q => x_sh G (vs.getD q .null)) hlen hi hv
  exact W.iald (v := x_sh G v) C.1 C.2.1 q1 ((C.2.2.2.2.2.2.1.2 k _ hk).1 _ _) (fun q => by cases q) i1 (by rw [i2, arrV_read _ _ i3]; simp [List.getD_eq_getElem?_getD, hv]) rfl rfl hd (kk G p la e R s m args below meth c Fin mc ms C rt hmc hms H locs cells slots ls ho hl hq h1 h2)
theorem e_lald {k a j : Nat} {vs : List Value} {i : Int32} {v : Value} (hd : decode y.2.1 pc = .ok (.laload, 1)) (ha : h.2 a = some (.inl (k, vs))) (hk : xTy[k]? = some .long) (hi : i = nI j) (hv : vs[j]? = some v) (kk : x_E y d kc ks (pc + 1) l (v :: st) h Q) : x_E y d kc ks pc l (.int i :: .ref a :: st) h Q := by
  intro G p la e R s m args below meth c Fin mc ms C rt hmc hms H locs cells slots ls ho hl hq h1 h2
  obtain ⟨a2, al, hlen, q1⟩ := ho.at ha (x_lt hk)
  obtain ⟨b, rfl⟩ : ∃ b, a = b + 2 := ⟨a - 2, by omega⟩
  rw [Nat.add_sub_cancel] at q1
  obtain ⟨i1, i2, i3⟩ := x_arin (cA := G.2.2.2.2 k) (f := fun q => x_sh G (vs.getD q .null)) hlen hi hv
  exact W.lald (v := x_sh G v) C.1 C.2.1 q1 ((C.2.2.2.2.2.2.1.2 k _ hk).1 _ _) (fun q => by cases q) i1 (by rw [i2, arrV_read _ _ i3]; simp [List.getD_eq_getElem?_getD, hv]) rfl rfl hd (kk G p la e R s m args below meth c Fin mc ms C rt hmc hms H locs cells slots ls ho hl hq h1 h2)
theorem e_zald {k a j : Nat} {vs : List Value} {i : Int32} {v : Value} (hd : decode y.2.1 pc = .ok (.baload, 1)) (ha : h.2 a = some (.inl (k, vs))) (hk : xTy[k]? = some .boolean) (hi : i = nI j) (hv : vs[j]? = some v) (kk : x_E y d kc ks (pc + 1) l (v :: st) h Q) : x_E y d kc ks pc l (.int i :: .ref a :: st) h Q := by
  intro G p la e R s m args below meth c Fin mc ms C rt hmc hms H locs cells slots ls ho hl hq h1 h2
  obtain ⟨a2, al, hlen, q1⟩ := ho.at ha (x_lt hk)
  obtain ⟨b, rfl⟩ : ∃ b, a = b + 2 := ⟨a - 2, by omega⟩
  rw [Nat.add_sub_cancel] at q1
  obtain ⟨i1, i2, i3⟩ := x_arin (cA := G.2.2.2.2 k) (f := fun q => x_sh G (vs.getD q .null)) hlen hi hv
  exact W.zald (v := x_sh G v) C.1 C.2.1 q1 ((C.2.2.2.2.2.2.1.2 k _ hk).1 _ _) (fun q => by cases q) i1 (by rw [i2, arrV_read _ _ i3]; simp [List.getD_eq_getElem?_getD, hv]) rfl rfl hd (kk G p la e R s m args below meth c Fin mc ms C rt hmc hms H locs cells slots ls ho hl hq h1 h2)
theorem e_bald {k a j : Nat} {vs : List Value} {i : Int32} {v : Value} (hd : decode y.2.1 pc = .ok (.baload, 1)) (ha : h.2 a = some (.inl (k, vs))) (hk : xTy[k]? = some .byte) (hi : i = nI j) (hv : vs[j]? = some v) (kk : x_E y d kc ks (pc + 1) l (v :: st) h Q) : x_E y d kc ks pc l (.int i :: .ref a :: st) h Q := by
  intro G p la e R s m args below meth c Fin mc ms C rt hmc hms H locs cells slots ls ho hl hq h1 h2
  obtain ⟨a2, al, hlen, q1⟩ := ho.at ha (x_lt hk)
  obtain ⟨b, rfl⟩ : ∃ b, a = b + 2 := ⟨a - 2, by omega⟩
  rw [Nat.add_sub_cancel] at q1
  obtain ⟨i1, i2, i3⟩ := x_arin (cA := G.2.2.2.2 k) (f := fun q => x_sh G (vs.getD q .null)) hlen hi hv
  exact W.bald (v := x_sh G v) C.1 C.2.1 q1 ((C.2.2.2.2.2.2.1.2 k _ hk).1 _ _) (fun q => by cases q) i1 (by rw [i2, arrV_read _ _ i3]; simp [List.getD_eq_getElem?_getD, hv]) rfl rfl hd (kk G p la e R s m args below meth c Fin mc ms C rt hmc hms H locs cells slots ls ho hl hq h1 h2)
theorem e_aald {k a j : Nat} {vs : List Value} {i : Int32} {v : Value} {ty : FieldType} (hd : decode y.2.1 pc = .ok (.aaload, 1)) (ha : h.2 a = some (.inl (k, vs))) (hk : xTy[k]? = some ty) (hr : ty.isReference = true) (hi : i = nI j) (hv : vs[j]? = some v) (kk : x_E y d kc ks (pc + 1) l (v :: st) h Q) : x_E y d kc ks pc l (.int i :: .ref a :: st) h Q := by
  intro G p la e R s m args below meth c Fin mc ms C rt hmc hms H locs cells slots ls ho hl hq h1 h2
  obtain ⟨a2, al, hlen, q1⟩ := ho.at ha (x_lt hk)
  obtain ⟨b, rfl⟩ : ∃ b, a = b + 2 := ⟨a - 2, by omega⟩
  rw [Nat.add_sub_cancel] at q1
  obtain ⟨i1, i2, i3⟩ := x_arin (cA := G.2.2.2.2 k) (f := fun q => x_sh G (vs.getD q .null)) hlen hi hv
  exact W.aald (v := x_sh G v) (ty := ty) C.1 C.2.1 q1 ((C.2.2.2.2.2.2.1.2 k _ hk).1 _ _) hr (fun q => by cases q) i1 (by rw [i2, arrV_read _ _ i3]; simp [List.getD_eq_getElem?_getD, hv]) rfl rfl hd (kk G p la e R s m args below meth c Fin mc ms C rt hmc hms H locs cells slots ls ho hl hq h1 h2)
theorem x_arst (G : xG) {cA : ClassId} {vs : List Value} {j : Nat} (v : Value) (hj : j < vs.length) : (arrV cA vs.length (fun q => x_sh G (vs.getD q .null))).setSlot j (x_sh G v) = arrV cA (vs.set j v).length (fun q => x_sh G ((vs.set j v).getD q .null)) := by
  rw [arrV_store, List.length_set]
  exact x_arrV fun q _ => x_updset G hj v q
theorem x_locs {locs : List Loc} {n a i : Nat} (h : ∀ q ∈ locs, n ≤ q.base) (ha : n ≤ a) : ∀ q ∈ locs ++ [(⟨a, i⟩ : Loc)], n ≤ q.base := by
  intro q hq
  rcases List.mem_append.mp hq with h7 | h7
  · exact h q h7
  · rw [List.mem_singleton.mp h7]; exact ha
theorem e_aast {k a ci z j : Nat} {vs fs : List Value} {i : Int32} {Cn : String} (hd : decode y.2.1 pc = .ok (.aastore, 1)) (ha : h.2 a = some (.inl (k, vs))) (hk : xTy[k]? = some (.object Cn)) (hi : i = nI j) (hj : j < vs.length) (hz : h.2 z = some (.inr (ci, fs))) (hc : (xCl[ci]?).map (fun r => r.1) = some Cn)
    (kk : x_E y d kc ks (pc + 1) l st (x_up h a (.inl (k, vs.set j (.ref z)))) Q) : x_E y d kc ks pc l (.ref z :: .int i :: .ref a :: st) h Q := by
  intro G p la e R s m args below meth c Fin mc ms C rt hmc hms H locs cells slots ls ho hl hq h1 h2
  obtain ⟨a2, al, hlen, q1⟩ := ho.at ha (x_lt hk)
  obtain ⟨b, rfl⟩ : ∃ b, a = b + 2 := ⟨a - 2, by omega⟩
  obtain ⟨z2, zl, r, hr, hfn, cell, g1, g2, g3, g4⟩ := ho.at hz trivial
  obtain ⟨w, rfl⟩ : ∃ w, z = w + 2 := ⟨z - 2, by omega⟩
  rw [Nat.add_sub_cancel] at q1 g1
  have hcC : r.1 = Cn := by
    have e : xCl[ci]? = some r := hr
    rw [e] at hc
    exact Option.some.inj hc
  subst hcC
  have hcls := (C.2.2.2.2.2.2.1.1.1.1 ci r hr).2
  obtain ⟨kA, comp, k1, k2, k3, -⟩ := (C.2.2.2.2.2.2.1.2 k _ hk).2.1
  have hcomp : comp = G.2.2.2.1.1 ci := Option.some.inj (k3.symm.trans hcls.1)
  subst hcomp
  obtain ⟨kC, hkC, -⟩ := hcls.2
  obtain ⟨v, hv⟩ : ∃ v, vs[j]? = some v := ⟨_, List.getElem?_eq_getElem hj⟩
  obtain ⟨i1, i2, i3⟩ := x_arin (cA := G.2.2.2.2 k) (f := fun q => x_sh G (vs.getD q .null)) hlen hi hv
  refine W.aast C.1 C.2.1 q1 (fun q h => by cases h) (fun h => by cases h) k1 k2 rfl hkC ⟨fun q => i1 (Or.inl q), Nat.not_le.mp fun q => i1 (Or.inr q)⟩ g1 (fun q h => by rw [g3] at h; cases h) (by rw [g2]; exact hkC) (by rw [g2]; exact va_assign hcls) rfl rfl hd fun H1 e1 z1 o1 => ?_
  refine kk G p la e R s m args below meth c Fin mc ms C rt hmc hms H1 _ cells slots ls (ho.put C.2.2.2.2.2.2.2.2.2.2.2 ha (x_lt hk) z1 (fun q hq => o1 q (by rw [Nat.add_sub_cancel] at hq; exact hq)) ⟨by simp only [List.length_set]; exact hlen, ?_⟩) hl (x_locs hq (Nat.le_add_right _ _)) h1 h2
  rw [Nat.add_sub_cancel, e1, i2]
  exact congrArg some (x_arst G (.ref (w + 2)) i3)
theorem e_aastN {k a j : Nat} {vs : List Value} {i : Int32} {Cn : String} (hd : decode y.2.1 pc = .ok (.aastore, 1)) (ha : h.2 a = some (.inl (k, vs))) (hk : xTy[k]? = some (.object Cn)) (hi : i = nI j) (hj : j < vs.length)
    (kk : x_E y d kc ks (pc + 1) l st (x_up h a (.inl (k, vs.set j (.ref 0)))) Q) : x_E y d kc ks pc l (.ref 0 :: .int i :: .ref a :: st) h Q := by
  intro G p la e R s m args below meth c Fin mc ms C rt hmc hms H locs cells slots ls ho hl hq h1 h2
  obtain ⟨a2, al, hlen, q1⟩ := ho.at ha (x_lt hk)
  obtain ⟨b, rfl⟩ : ∃ b, a = b + 2 := ⟨a - 2, by omega⟩
  rw [Nat.add_sub_cancel] at q1
  obtain ⟨v, hv⟩ : ∃ v, vs[j]? = some v := ⟨_, List.getElem?_eq_getElem hj⟩
  obtain ⟨i1, i2, i3⟩ := x_arin (cA := G.2.2.2.2 k) (f := fun q => x_sh G (vs.getD q .null)) hlen hi hv
  refine va_WaastN (C := Cn) C.1 C.2.1 q1 ((C.2.2.2.2.2.2.1.2 k _ hk).1 _ _) (fun h => by cases h) i1 rfl rfl hd fun H1 e1 z1 o1 => ?_
  refine kk G p la e R s m args below meth c Fin mc ms C rt hmc hms H1 _ cells slots ls (ho.put C.2.2.2.2.2.2.2.2.2.2.2 ha (x_lt hk) z1 (fun q hq => o1 q (by rw [Nat.add_sub_cancel] at hq; exact hq)) ⟨by simp only [List.length_set]; exact hlen, ?_⟩) hl (x_locs hq (Nat.le_add_right _ _)) h1 h2
  rw [Nat.add_sub_cancel, e1, i2]
  exact congrArg some (x_arst G (.ref 0) i3)
theorem e_slen {xs : List Int32} {n : Int32} (hd : decode y.2.1 pc = .ok (.arraylength, 1)) (ha : h.2 1 = some (.inl (5, xs.map Value.int))) (hn : n = nI xs.length) (kk : x_E y d kc ks (pc + 1) l (.int n :: st) h Q) : x_E y d kc ks pc l (.ref 1 :: st) h Q := by
  intro G p la e R s m args below meth c Fin mc ms C rt hmc hms H locs cells slots ls ho hl hq h1 h2
  rcases ho.2.2.2 1 _ ha with ⟨-, ys, ey, g1, g2, g3⟩ | ⟨q, -⟩
  · have ex : xs = ys := by
      have e2 : xs.map Value.int = ys.map Value.int := congrArg (fun c : xC => match c with | .inl q => q.2 | .inr q => q.2) ey
      exact (List.map_inj_right (fun _ _ hab => Value.int.inj hab)).mp e2
    subst ex
    exact W.alen (n := n) C.1 C.2.1 ho.2.2.1 C.2.2.2.2.2.2.1.1.2.1 (by rw [g1, hn]; rfl) rfl rfl hd (kk G p la e R s m args below meth c Fin mc ms C rt hmc hms H locs cells slots ls ho hl hq h1 h2)
  · exact absurd q (by decide)
theorem e_sld {xs : List Int32} {i : Int32} {j : Nat} (hd : decode y.2.1 pc = .ok (.iaload, 1)) (ha : h.2 1 = some (.inl (5, xs.map Value.int))) (hi : i = nI j) (hj : j < xs.length) (kk : x_E y d kc ks (pc + 1) l (.int (xs.getD j 0) :: st) h Q) : x_E y d kc ks pc l (.int i :: .ref 1 :: st) h Q := by
  intro G p la e R s m args below meth c Fin mc ms C rt hmc hms H locs cells slots ls ho hl hq h1 h2
  rcases ho.2.2.2 1 _ ha with ⟨-, ys, ey, g1, g2, g3⟩ | ⟨q, -⟩
  · have ex : xs = ys := by
      have e2 : xs.map Value.int = ys.map Value.int := congrArg (fun c : xC => match c with | .inl q => q.2 | .inr q => q.2) ey
      exact (List.map_inj_right (fun _ _ hab => Value.int.inj hab)).mp e2
    subst ex
    have hc : i.toNatClampNeg = j := by rw [hi]; exact nI_clamp (by omega)
    exact W.iald (v := .int (xs.getD j 0)) C.1 C.2.1 ho.2.2.1 C.2.2.2.2.2.2.1.1.2.1 C.2.2.2.2.2.2.1.1.2.2 (by rw [g1, hi]; exact nI_in hj g2) (by rw [hc]; exact g3 j hj) rfl rfl hd (kk G p la e R s m args below meth c Fin mc ms C rt hmc hms H locs cells slots ls ho hl hq h1 h2)
  · exact absurd q (by decide)
theorem e_iast {k a j : Nat} {vs : List Value} {i : Int32} {x : Int32} (hd : decode y.2.1 pc = .ok (.iastore, 1)) (ha : h.2 a = some (.inl (k, vs))) (hk : xTy[k]? = some .int) (hi : i = nI j) (hj : j < vs.length)
    (kk : x_E y d kc ks (pc + 1) l st (x_up h a (.inl (k, vs.set j (.int x)))) Q) : x_E y d kc ks pc l (.int x :: .int i :: .ref a :: st) h Q := by
  intro G p la e R s m args below meth c Fin mc ms C rt hmc hms H locs cells slots ls ho hl hq h1 h2
  obtain ⟨a2, al, hlen, q1⟩ := ho.at ha (x_lt hk)
  obtain ⟨b, rfl⟩ : ∃ b, a = b + 2 := ⟨a - 2, by omega⟩
  rw [Nat.add_sub_cancel] at q1
  obtain ⟨v, hv⟩ : ∃ v, vs[j]? = some v := ⟨_, List.getElem?_eq_getElem hj⟩
  obtain ⟨i1, i2, i3⟩ := x_arin (cA := G.2.2.2.2 k) (f := fun q => x_sh G (vs.getD q .null)) hlen hi hv
  refine W.iast C.1 C.2.1 q1 ((C.2.2.2.2.2.2.1.2 k _ hk).1 _ _) (fun h => by cases h) i1 rfl rfl hd fun H1 e1 z1 o1 => ?_
  refine kk G p la e R s m args below meth c Fin mc ms C rt hmc hms H1 _ cells slots ls (ho.put C.2.2.2.2.2.2.2.2.2.2.2 ha (x_lt hk) z1 (fun q hq => o1 q (by rw [Nat.add_sub_cancel] at hq; exact hq)) ⟨by simp only [List.length_set]; exact hlen, ?_⟩) hl (x_locs hq (Nat.le_add_right _ _)) h1 h2
  rw [Nat.add_sub_cancel, e1, i2]
  exact congrArg some (x_arst G (.int x) i3)
theorem e_last {k a j : Nat} {vs : List Value} {i : Int32} {x : Int64} (hd : decode y.2.1 pc = .ok (.lastore, 1)) (ha : h.2 a = some (.inl (k, vs))) (hk : xTy[k]? = some .long) (hi : i = nI j) (hj : j < vs.length)
    (kk : x_E y d kc ks (pc + 1) l st (x_up h a (.inl (k, vs.set j (.long x)))) Q) : x_E y d kc ks pc l (.long x :: .int i :: .ref a :: st) h Q := by
  intro G p la e R s m args below meth c Fin mc ms C rt hmc hms H locs cells slots ls ho hl hq h1 h2
  obtain ⟨a2, al, hlen, q1⟩ := ho.at ha (x_lt hk)
  obtain ⟨b, rfl⟩ : ∃ b, a = b + 2 := ⟨a - 2, by omega⟩
  rw [Nat.add_sub_cancel] at q1
  obtain ⟨v, hv⟩ : ∃ v, vs[j]? = some v := ⟨_, List.getElem?_eq_getElem hj⟩
  obtain ⟨i1, i2, i3⟩ := x_arin (cA := G.2.2.2.2 k) (f := fun q => x_sh G (vs.getD q .null)) hlen hi hv
  refine W.last C.1 C.2.1 q1 ((C.2.2.2.2.2.2.1.2 k _ hk).1 _ _) (fun h => by cases h) i1 rfl rfl hd fun H1 e1 z1 o1 => ?_
  refine kk G p la e R s m args below meth c Fin mc ms C rt hmc hms H1 _ cells slots ls (ho.put C.2.2.2.2.2.2.2.2.2.2.2 ha (x_lt hk) z1 (fun q hq => o1 q (by rw [Nat.add_sub_cancel] at hq; exact hq)) ⟨by simp only [List.length_set]; exact hlen, ?_⟩) hl (x_locs hq (Nat.le_add_right _ _)) h1 h2
  rw [Nat.add_sub_cancel, e1, i2]
  exact congrArg some (x_arst G (.long x) i3)
theorem e_zast {k a j : Nat} {vs : List Value} {i : Int32} {x : Int32} (hd : decode y.2.1 pc = .ok (.bastore, 1)) (ha : h.2 a = some (.inl (k, vs))) (hk : xTy[k]? = some .boolean) (hi : i = nI j) (hj : j < vs.length) (hx : narrow .boolean (.int x) = .int x)
    (kk : x_E y d kc ks (pc + 1) l st (x_up h a (.inl (k, vs.set j (.int x)))) Q) : x_E y d kc ks pc l (.int x :: .int i :: .ref a :: st) h Q := by
  intro G p la e R s m args below meth c Fin mc ms C rt hmc hms H locs cells slots ls ho hl hq h1 h2
  obtain ⟨a2, al, hlen, q1⟩ := ho.at ha (x_lt hk)
  obtain ⟨b, rfl⟩ : ∃ b, a = b + 2 := ⟨a - 2, by omega⟩
  rw [Nat.add_sub_cancel] at q1
  obtain ⟨v, hv⟩ : ∃ v, vs[j]? = some v := ⟨_, List.getElem?_eq_getElem hj⟩
  obtain ⟨i1, i2, i3⟩ := x_arin (cA := G.2.2.2.2 k) (f := fun q => x_sh G (vs.getD q .null)) hlen hi hv
  refine W.zast C.1 C.2.1 q1 ((C.2.2.2.2.2.2.1.2 k _ hk).1 _ _) (fun h => by cases h) i1 rfl rfl hd fun H1 e1 z1 o1 => ?_
  refine kk G p la e R s m args below meth c Fin mc ms C rt hmc hms H1 _ cells slots ls (ho.put C.2.2.2.2.2.2.2.2.2.2.2 ha (x_lt hk) z1 (fun q hq => o1 q (by rw [Nat.add_sub_cancel] at hq; exact hq)) ⟨by simp only [List.length_set]; exact hlen, ?_⟩) hl (x_locs hq (Nat.le_add_right _ _)) h1 h2
  rw [Nat.add_sub_cancel, e1, i2, hx]
  exact congrArg some (x_arst G (.int x) i3)
end XH
section XQ
variable {y : xM} {d kc ks pc : Nat} {l : List (Nat × Value)} {st : List Value} {h : xH} {Q : List Value → xH → Prop}
/-- the words of a call of y by 'own' at idx -/
def x_Mw (own : String) (idx : Nat) (y : xM) (n : Nat) : Prop := Cond.methodLink own idx y.1 ∈ xW0 ∧ Cond.initialized y.1.cls ∈ xW0 ∧ Cond.code y.1 y.2.1 y.2.2.1 y.2.2.2 ∈ xW0 ∧ y.1.cls ≠ "java/lang/invoke/MethodHandle" ∧ y.1.cls ≠ "java/lang/invoke/VarHandle" ∧ (parseMethodDescriptor y.1.desc).map (fun d => d.parameters.length) = some n ∧ y.2.2.1 ≤ 45
def x_Mv (own : String) (idx : Nat) (y : xM) (n : Nat) : Prop := x_Mw own idx y n ∧ Cond.instanceMethod y.1 ∈ xW0 ∧ Cond.selects y.1.cls y.1 y.1 ∈ xW0
def x_Ms (own : String) (idx : Nat) (y : xM) (n : Nat) : Prop := x_Mw own idx y n ∧ Cond.static y.1 ∈ xW0
def x_Mi (own : String) (idx : Nat) (y : xM) (n : Nat) : Prop := x_Mw own idx y n ∧ Cond.instanceMethod y.1 ∈ xW0 ∧ y.1.name = "<init>" ∧ y.2.2.2 = none
theorem x_goodW {args : Array Value} {s : State} {y : xM} (hts : ∀ w ∈ xW0, w.before args s = true) (hc : Cond.code y.1 y.2.1 y.2.2.1 y.2.2.2 ∈ xW0) : ∀ w ∈ x_ws y, ∀ (a' : Array Value) (U : State), s.WarmedH U.vm → w.before a' U = true := by
  refine pay_in hts (fun w hw => ?_)
  have hm : w ∈ xW0 := by
    rcases List.mem_cons.mp hw with rfl | h
    · exact hc
    · exact h
  exact ⟨hm, good_of_word (xW0_good w hm)⟩
theorem x_callB {R : Room} {args : Array Value} {s : State} {own : String} {idx : Nat} {y : xM} {n d' dR mc ms : Nat} (hts : ∀ w ∈ xW0, w.before args s = true) (hM : x_Mw own idx y n) (hd : d' + 1 ≤ dR) (hf : dR ≤ R.frames) (hlo : dR * 64 ≤ R.locals) : CallB R s args own idx y.1 y.2.1 y.2.2.1 y.2.2.2 (x_ws y) { frames := d', cells := mc, slots := ms, locals := d' * 64 } mc ms n := by
  obtain ⟨m1, m2, m3, m4, m5, m6, m7⟩ := hM
  refine ⟨rfl, rfl, by show d' + 1 ≤ R.frames; omega, by show 8 + (y.2.2.1 + 11) + d' * 64 ≤ R.locals; omega, x_goodW hts m3, List.mem_cons_self, hts _ m3, hts _ m2, ⟨m4, m5⟩, fun sig h => ?_, hts _ m1⟩
  rw [h] at m6
  exact (Option.some.inj m6).symm
theorem x_blind {G : xG} {h : xH} {as : List Value} : FrameBlind (fun v U => v = (as.map (x_sh G)).toArray ∧ x_Ho G h U.heap ∧ x_K G U) :=
  fun a U g mk q => ⟨q.1, q.2.1, x_K.moved (u := U) (U := U.calling g mk a) (Vm.Alike.refl U.vm) q.2.2⟩
theorem x_sumc (G : xG) (st : List Value) : ((st.map (x_sh G)).map fun v => v.category).sum = (st.map fun v => v.category).sum := by
  induction st with
  | nil => rfl
  | cons v t ih => simp only [List.map_cons, List.sum_cons, x_cat] at ih ⊢; rw [ih]
theorem x_back {G : xG} {p : Program} {la : Launch} {e : Env} {R : Room} {s : State} {m : MethodId} {args : Array Value} {below : List Frame} {meth : Method} {c : Code} {Fin : State → Prop} {mc ms cells slots mc' ms' : Nat} {H : Heap} {locs : List Loc} {ls : Array Slot} {st0 : List Value} {as : Array Value} {Q' : List Value → xH → Prop} {kc' ks' : Nat} {l : List (Nat × Value)}
    (C : x_Cx G y d p R s m args meth c) (rt : x_Rt G y p la e R s m args below meth c Fin mc ms Q) (hmc : mc ≤ R.cells) (hms : ms ≤ R.slots) (hl : lv_has ls y.2.2.1 (l.map (x_sp G))) (hq : ∀ q ∈ locs, G.2.1 ≤ q.base) (h1 : cells + mc' + kc' ≤ mc) (h2 : slots + ms' + ks' ≤ ms)
    (hr : va_Run p la e R s m args below meth c H locs cells slots mc' ms' (F0 m pc ls st0) (st.map (x_sh G)) (fun s0 o t => (fun _ _ o t => ∃ (rv : List Value) (h' : xH), o = .returned (rv.map (x_sh G)).head? ∧ rv.length ≤ 1 ∧ Q' rv h' ∧ x_Ho G h' t.heap) as s0 o t) (fun q => G.2.1 ≤ q))
    (kk : ∀ (rv : List Value) (h' : xH), Q' rv h' → x_E y d kc' ks' (pc + 3) l (rv ++ st) h' Q) : W p la e R s m args below meth c H locs cells slots Fin (F0 m pc ls st0) := by
  intro T hT X
  obtain ⟨v, s0, t, T', L, e0, X', hL, e1, e2, ⟨rv, h', hv, hlen, hQ, hho⟩, go⟩ := hr T hT X
  have hv : v = (rv.map (x_sh G)).head? := Outcome.returned.inj hv
  have hst : v.toList ++ st.map (x_sh G) = (rv ++ st).map (x_sh G) := by
    rw [hv]
    match rv, hlen with
    | [], _ => rfl
    | [x], _ => rfl
  have k2 := kk rv h' hQ G p la e R s m args below meth c Fin mc ms C rt hmc hms T'.heap (locs ++ L) (cells + mc') (slots + ms') ls (by rw [e1]; exact hho) hl (fun q hq' => by
    rcases List.mem_append.mp hq' with h7 | h7
    · exact hq q h7
    · exact hL q h7) h1 h2
  obtain ⟨t2, a1, b1⟩ := k2 T' rfl X'
  refine ⟨t2, go t2 ?_, b1⟩
  show Steps p.tables e below (T'.setTop { F0 m pc ls st0 with pc := pc + 3, stack := v.toList ++ st.map (x_sh G) }) t2
  rw [hst]
  exact a1
theorem e_callV {z : xM} {idx n d' mc' ms' kc' ks' b ci : Nat} {As st0 fs : List Value} {Q' : List Value → xH → Prop} (hd : decode y.2.1 pc = .ok (.invokevirtual idx, 3)) (hM : x_Mv y.1.cls idx z n) (hn : As.length = n) (hst : st0 = As.reverse ++ .ref b :: st) (hb : h.2 b = some (.inr (ci, fs))) (hc : (xCl[ci]?).map (fun r => r.1) = some z.1.cls) (hdd : d' + 1 ≤ d) (hsum : (st.map fun v => v.category).sum ≤ 8) (hkc : kc' + mc' = kc) (hks : ks' + ms' = ks)
    (hcon : x_Con z d' mc' ms' (.ref b :: As) h Q') (kk : ∀ (rv : List Value) (h' : xH), Q' rv h' → x_E y d kc' ks' (pc + 3) l (rv ++ st) h' Q) : x_E y d kc ks pc l st0 h Q := by
  intro G p la e R s m args below meth c Fin mc ms C rt hmc hms H locs cells slots ls ho hl hq h1 h2
  subst hst
  have hts := C.2.2.2.2.2.1
  obtain ⟨b2, bl, r, hr, hfn, cell, g1, g2, g3, g4⟩ := ho.at hb trivial
  obtain ⟨w, rfl⟩ : ∃ w, b = w + 2 := ⟨b - 2, by omega⟩
  rw [Nat.add_sub_cancel] at g1
  have hcC : r.1 = z.1.cls := by
    have e : xCl[ci]? = some r := hr
    rw [e] at hc
    exact Option.some.inj hc
  have hcls := (C.2.2.2.2.2.2.1.1.1.1 ci r hr).2
  have hrun := va_runV (e := e) (below := below) (meth := meth) (g := F0 m pc ls ((As.reverse ++ .ref (w + 2) :: st).map (x_sh G))) (b := G.2.1 + w) (As := As.map (x_sh G)) (rest := st.map (x_sh G)) (locs := locs) (cells := cells) (slots := slots) ⟨C.1, C.2.1, C.2.2.2.1, C.2.2.2.2.1, hts⟩ (hcon G la C.2.2.2.2.2.2.2.2.2.2.2) (C := z.1.cls) ⟨x_callB (R := R) hts hM.1 hdd C.2.2.2.2.2.2.2.2.2.1 C.2.2.2.2.2.2.2.2.2.2.1, hts _ hM.2.1, hts _ hM.2.2⟩ ⟨x_blind, ⟨cell, g1, by rw [g3]; rfl, by rw [g2, ← hcC]; exact hcls.1⟩, fun U hU hW => ⟨rfl, by rw [hU]; exact ho, C.2.2.2.2.2.2.1.moved hW.alike⟩⟩ rfl (by rw [List.length_map]; exact hn) hl.1 (by simp only [F0, List.map_append, List.map_reverse, List.map_cons]; rfl) (lv_room (by rw [x_sumc]; exact hsum)) hd ⟨by omega, by omega⟩
  exact x_back (as := #[]) C rt hmc hms hl hq (by omega) (by omega) hrun kk
theorem e_callS {z : xM} {idx n d' mc' ms' kc' ks' : Nat} {As st0 : List Value} {Q' : List Value → xH → Prop} (hd : decode y.2.1 pc = .ok (.invokestatic idx, 3)) (hM : x_Ms y.1.cls idx z n) (hn : As.length = n) (hst : st0 = As.reverse ++ st) (hdd : d' + 1 ≤ d) (hsum : (st.map fun v => v.category).sum ≤ 8) (hkc : kc' + mc' = kc) (hks : ks' + ms' = ks)
    (hcon : x_Con z d' mc' ms' As h Q') (kk : ∀ (rv : List Value) (h' : xH), Q' rv h' → x_E y d kc' ks' (pc + 3) l (rv ++ st) h' Q) : x_E y d kc ks pc l st0 h Q := by
  intro G p la e R s m args below meth c Fin mc ms C rt hmc hms H locs cells slots ls ho hl hq h1 h2
  subst hst
  have hts := C.2.2.2.2.2.1
  have hrun := va_runS (e := e) (below := below) (meth := meth) (g := F0 m pc ls ((As.reverse ++ st).map (x_sh G))) (As := As.map (x_sh G)) (rest := st.map (x_sh G)) (locs := locs) (cells := cells) (slots := slots) ⟨C.1, C.2.1, C.2.2.2.1, C.2.2.2.2.1, hts⟩ (hcon G la C.2.2.2.2.2.2.2.2.2.2.2) ⟨x_callB (R := R) hts hM.1 hdd C.2.2.2.2.2.2.2.2.2.1 C.2.2.2.2.2.2.2.2.2.2.1, hts _ hM.2⟩ ⟨x_blind, fun U hU hW => ⟨rfl, by rw [hU]; exact ho, C.2.2.2.2.2.2.1.moved hW.alike⟩⟩ rfl (by rw [List.length_map]; exact hn) hl.1 (by simp only [F0, List.map_append, List.map_reverse]) (lv_room (by rw [x_sumc]; exact hsum)) hd ⟨by omega, by omega⟩
  exact x_back (as := #[]) C rt hmc hms hl hq (by omega) (by omega) hrun kk
theorem e_callI {z : xM} {idx n d' mc' ms' kc' ks' b : Nat} {As st0 : List Value} {ci : Nat} {fs : List Value} {Q' : List Value → xH → Prop} (hd : decode y.2.1 pc = .ok (.invokespecial idx, 3)) (hM : x_Mi y.1.cls idx z n) (hn : As.length = n) (hst : st0 = As.reverse ++ .ref b :: st) (hb : h.2 b = some (.inr (ci, fs))) (hdd : d' + 1 ≤ d) (hsum : (st.map fun v => v.category).sum ≤ 8) (hkc : kc' + mc' = kc) (hks : ks' + ms' = ks)
    (hcon : x_Con z d' mc' ms' (.ref b :: As) h Q') (kk : ∀ (rv : List Value) (h' : xH), Q' rv h' → x_E y d kc' ks' (pc + 3) l (rv ++ st) h' Q) : x_E y d kc ks pc l st0 h Q := by
  intro G p la e R s m args below meth c Fin mc ms C rt hmc hms H locs cells slots ls ho hl hq h1 h2
  subst hst
  have hts := C.2.2.2.2.2.1
  obtain ⟨b2, bl, -⟩ := ho.at hb trivial
  obtain ⟨w, rfl⟩ : ∃ w, b = w + 2 := ⟨b - 2, by omega⟩
  have cb := x_callB (R := R) (args := args) (s := s) (mc := mc') (ms := ms') hts hM.1 hdd C.2.2.2.2.2.2.2.2.2.1 C.2.2.2.2.2.2.2.2.2.2.1
  rw [hM.2.2.2] at cb
  have hrun := va_runI (e := e) (below := below) (meth := meth) (g := F0 m pc ls ((As.reverse ++ .ref (w + 2) :: st).map (x_sh G))) (b := G.2.1 + w) (As := As.map (x_sh G)) (rest := st.map (x_sh G)) (locs := locs) (cells := cells) (slots := slots) ⟨C.1, C.2.1, C.2.2.2.1, C.2.2.2.2.1, hts⟩ (hcon G la C.2.2.2.2.2.2.2.2.2.2.2) ⟨cb, hM.2.2.1, hts _ hM.2.1⟩ ⟨x_blind, fun U hU hW => ⟨rfl, by rw [hU]; exact ho, C.2.2.2.2.2.2.1.moved hW.alike⟩⟩ rfl (by rw [List.length_map]; exact hn) hl.1 (by simp only [F0, List.map_append, List.map_reverse, List.map_cons]; rfl) (lv_room (by rw [x_sumc]; exact hsum)) hd ⟨by omega, by omega⟩
  exact x_back (as := #[]) C rt hmc hms hl hq (by omega) (by omega) hrun kk
/-- Object.<init> -/
theorem e_obj {idx b ci : Nat} {fs : List Value} (hd : decode y.2.1 pc = .ok (.invokespecial idx, 3)) (hb : h.2 b = some (.inr (ci, fs))) (w1 : Cond.methodLink y.1.cls idx objectInit ∈ xW0) (w2 : Cond.instanceMethod objectInit ∈ xW0) (w3 : Cond.code objectInit ⟨#[0xb1]⟩ 1 none ∈ xW0) (hdd : 1 ≤ d) (hsum : (st.map fun v => v.category).sum ≤ 8) (kk : x_E y d kc ks (pc + 3) l st h Q) : x_E y d kc ks pc l (.ref b :: st) h Q := by
  intro G p la e R s m args below meth c Fin mc ms C rt hmc hms H locs cells slots ls ho hl hq h1 h2
  have hts := C.2.2.2.2.2.1
  obtain ⟨b2, bl, -⟩ := ho.at hb trivial
  obtain ⟨w, rfl⟩ : ∃ w, b = w + 2 := ⟨b - 2, by omega⟩
  have hfr := C.2.2.2.2.2.2.2.2.2.1
  have hlo := C.2.2.2.2.2.2.2.2.2.2.1
  have hro : 2 * (F0 m pc ls ((Value.ref (w + 2) :: st).map (x_sh G))).monitorRoom + ((st.map (x_sh G)).map fun v => v.category).sum ≤ 8 := lv_room (by rw [x_sumc]; exact hsum)
  exact W.objInit C.1 C.2.1 C.2.2.2.2.1 (hts _ w1) (hts _ w2) (hts _ w3) rfl (hl.1.trans C.2.2.2.1.symm) (a := G.2.1 + w) rfl hd (by omega) (by omega) (kk G p la e R s m args below meth c Fin mc ms C rt hmc hms H locs cells slots ls ho hl hq h1 h2)
end XQ
