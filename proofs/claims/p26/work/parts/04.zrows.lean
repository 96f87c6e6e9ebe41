-- wrappers of my own over the kit's rows: contracts in one form, worlds as lists of regions
def zw (y : MethodName) (cc : ByteArray) (maxL : Nat) (ret : Option FieldType) : List Cond := Cond.code y cc maxL ret :: zG
abbrev zZ : Type := va_G × ClassId × ClassId × ClassId
def z_nf : List (String × Nat × String × String × String × String) := [("ScriptPages", 59, "ScriptPages$Script", "size", "I", "ScriptPages"), ("ScriptPages$Pages", 69, "ScriptPages$Script", "size", "I", "ScriptPages"), ("ScriptPages$Scenes", 71, "ScriptPages$Script", "size", "I", "ScriptPages"), ("ScriptPages$Pages", 60, "ScriptPages$Script", "pageLines", "I", "ScriptPages"), ("ScriptPages", 141, "ScriptPages$Script", "pageLines", "I", "ScriptPages"), ("ScriptPages$Pages", 89, "ScriptPages$Script", "kinds", "LScriptPages$Row;", "ScriptPages"), ("ScriptPages", 267, "ScriptPages$Script", "kinds", "LScriptPages$Row;", "ScriptPages"), ("ScriptPages", 125, "ScriptPages$Script", "lengths", "LScriptPages$Row;", "ScriptPages"), ("ScriptPages$Scenes", 94, "ScriptPages$Script", "persons", "LScriptPages$Row;", "ScriptPages"), ("ScriptPages", 206, "ScriptPages$Script", "persons", "LScriptPages$Row;", "ScriptPages"), ("ScriptPages$Pages", 117, "ScriptPages$Script", "marks", "LScriptPages$Row;", "ScriptPages"), ("ScriptPages", 179, "ScriptPages$Script", "marks", "LScriptPages$Row;", "ScriptPages"), ("ScriptPages$Scenes", 100, "ScriptPages$Script", "firsts", "LScriptPages$Row;", "ScriptPages"), ("ScriptPages$Scenes", 101, "ScriptPages$Script", "seconds", "LScriptPages$Row;", "ScriptPages"), ("ScriptPages$Scenes", 102, "ScriptPages$Script", "thirds", "LScriptPages$Row;", "ScriptPages"), ("ScriptPages", 144, "ScriptPages$Scenes", "count", "I", "ScriptPages"), ("ScriptPages", 255, "ScriptPages$Scenes", "lockedCount", "I", "ScriptPages"), ("ScriptPages", 261, "ScriptPages$Scenes", "carriedCount", "I", "ScriptPages"), ("ScriptPages", 147, "ScriptPages$Scenes", "headings", "LScriptPages$Row;", "ScriptPages"), ("ScriptPages", 173, "ScriptPages$Scenes", "sizes", "LScriptPages$Row;", "ScriptPages"), ("ScriptPages", 282, "ScriptPages$Scenes", "sums", "LScriptPages$Row;", "ScriptPages"), ("ScriptPages", 153, "ScriptPages$Scenes", "firsts", "LScriptPages$Row;", "ScriptPages"), ("ScriptPages", 156, "ScriptPages$Scenes", "seconds", "LScriptPages$Row;", "ScriptPages"), ("ScriptPages", 159, "ScriptPages$Scenes", "thirds", "LScriptPages$Row;", "ScriptPages"), ("ScriptPages", 270, "ScriptPages$Scenes", "homes", "LScriptPages$Row;", "ScriptPages"), ("ScriptPages", 209, "ScriptPages$Scenes", "carries", "LScriptPages$Row;", "ScriptPages"), ("ScriptPages", 182, "ScriptPages$Pages", "count", "I", "ScriptPages"), ("ScriptPages", 258, "ScriptPages$Pages", "markCount", "I", "ScriptPages"), ("ScriptPages", 264, "ScriptPages$Pages", "splitCount", "I", "ScriptPages"), ("ScriptPages", 273, "ScriptPages$Pages", "places", "LScriptPages$Row;", "ScriptPages"), ("ScriptPages", 276, "ScriptPages$Pages", "tops", "LScriptPages$Row;", "ScriptPages"), ("ScriptPages", 279, "ScriptPages$Pages", "parts", "LScriptPages$Row;", "ScriptPages"), ("ScriptPages", 183, "ScriptPages$Pages", "firsts", "LScriptPages$Row;", "ScriptPages")]
def z_nm : List (String × Nat × MethodName × String) := [("ScriptPages", 11, ⟨"ScriptPages$Script", "<init>", "()V"⟩, "ScriptPages"), ("ScriptPages", 21, ⟨"ScriptPages$Scenes", "<init>", "()V"⟩, "ScriptPages"), ("ScriptPages", 31, ⟨"ScriptPages$Pages", "<init>", "()V"⟩, "ScriptPages"), ("ScriptPages$History", 21, ⟨"ScriptPages$Script", "<init>", "()V"⟩, "ScriptPages"), ("ScriptPages$Script", 48, ⟨"ScriptPages", "isBelow", "(II)Z"⟩, "ScriptPages"), ("ScriptPages$Scenes", 54, ⟨"ScriptPages", "isBelow", "(II)Z"⟩, "ScriptPages")]
def zNW (U : State) : Prop := (∀ q ∈ z_nf, va_Nw (.fieldLinkNest q.1 q.2.1 q.2.2.1 q.2.2.2.1 q.2.2.2.2.1 q.2.2.2.2.2) U) ∧ ∀ q ∈ z_nm, va_Nw (.methodLinkNest q.1 q.2.1 q.2.2.1 q.2.2.2) U
def zK (Z : zZ) (U : State) : Prop := va_K Z.1 vwCl [(Z.2.1, .int), (Z.2.2.1, .object "ScriptPages$Script")] U ∧ zNW U
theorem zNW.warm {s U : State} (hW : s.WarmedH U.vm) (h : zNW s) : zNW U := ⟨fun q hq => va_Nw.warmF hW (h.1 q hq), fun q hq => va_Nw.warmM hW (h.2 q hq)⟩
theorem zNW.same {u U : State} (hv : u.vm = U.vm) (h : zNW u) : zNW U := ⟨fun q hq => va_Nw.same rfl hv (h.1 q hq), fun q hq => va_Nw.same rfl hv (h.2 q hq)⟩
theorem zNW.fld {U : State} (h : zNW U) {args : Array Value} {a c d f g : String} {b : Nat} (i : Nat) (e : z_nf[i]? = some (a, b, c, d, f, g)) : (Cond.fieldLinkNest a b c d f g).before args U = true := va_Nw.use rfl (h.1 _ (List.mem_of_getElem? e))
theorem zNW.mth {U : State} (h : zNW U) {a g : String} {b : Nat} {y : MethodName} (i : Nat) (e : z_nm[i]? = some (a, b, y, g)) : va_Nw (.methodLinkNest a b y g) U := h.2 _ (List.mem_of_getElem? e)
theorem zK.warm {Z : zZ} {s U : State} (hW : s.WarmedH U.vm) (h : zK Z s) : zK Z U := ⟨va_K.moved hW.alike h.1, h.2.warm hW⟩
theorem zK.same {Z : zZ} {u U : State} (hv : u.vm = U.vm) (h : zK Z u) : zK Z U := ⟨va_K.moved (by rw [hv]; exact Vm.Alike.refl _) h.1, h.2.same hv⟩
/-! the residual function term of a walk is taken apart by these -/
def zlet {α β : Type} (x : α) (f : α → β) : β := f x
def zix {α : Type} (i : Int32) (n : Nat) (x : Option α) : Option α := if (i < 0 ∨ n ≤ i.toNatClampNeg) then none else x
def zdv {α : Type} (y : Int32) (x : Option α) : Option α := if y = 0 then none else x
theorem z_pos {α : Type} {c : Prop} {_ : Decidable c} {A B R : α} (h : c) (e : (if c then A else B) = R) : A = R := by rw [if_pos h] at e; exact e
theorem z_neg {α : Type} {c : Prop} {_ : Decidable c} {A B R : α} (h : ¬ c) (e : (if c then A else B) = R) : B = R := by rw [if_neg h] at e; exact e
theorem z_let {α β : Type} {x : α} {f : α → β} {R : β} {G : Prop} (e : zlet x f = R) (k : ∀ q, x = q → f q = R → G) : G := k x rfl e
theorem z_bnd {α β : Type} {x : Option α} {f : α → Option β} {R : β} {G : Prop} (e : x.bind f = some R) (k : ∀ q, x = some q → f q = some R → G) : G := by
  cases x with
  | none => cases e
  | some q => exact k q rfl e
theorem z_ix {α : Type} {i : Int32} {n : Nat} {x : Option α} {R : α} {G : Prop} (e : zix i n x = some R) (k : vp_in i n → x = some R → G) : G := by
  unfold zix at e
  by_cases h : (i < 0 ∨ n ≤ i.toNatClampNeg)
  · rw [if_pos h] at e; cases e
  · rw [if_neg h] at e; exact k h e
theorem z_dv {α : Type} {y : Int32} {x : Option α} {R : α} {G : Prop} (e : zdv y x = some R) (k : ¬ y = 0 → x = some R → G) : G := by
  unfold zdv at e
  by_cases h : y = 0
  · rw [if_pos h] at e; cases e
  · rw [if_neg h] at e; exact k h e
/-! worlds -/
def zA (w : va_W) : Nat → Prop := fun q => q ∈ w.map (·.1)
theorem zP_mem {D : va_G} {cl : List vw_C} {ws : va_W} {H : Heap} : va_P D cl ws H ↔ ∀ q ∈ ws, va_at D cl q H :=
  ⟨fun h q hq => by obtain ⟨k, hk⟩ := List.getElem?_of_mem hq; exact h k q hk, fun h k q hk => h q (List.mem_of_getElem? hk)⟩
theorem zD_self {A : Nat → Prop} {w : va_W} (h : va_D A w) : va_D (zA w) w := ⟨h.1, fun _ q hk => List.mem_map.mpr ⟨q, List.mem_of_getElem? hk, rfl⟩⟩
theorem zD_adr {A : Nat → Prop} {w w' : va_W} (h : va_D A w) (e : w'.map (·.1) = w.map (·.1)) : va_D A w' := by
  have key : ∀ (k : Nat) (q : Nat × va_E), w'[k]? = some q → ∃ q0, w[k]? = some q0 ∧ q0.1 = q.1 := by
    intro k q hk
    have h1 : (w'.map (·.1))[k]? = some q.1 := by rw [List.getElem?_map, hk]; rfl
    rw [e, List.getElem?_map] at h1
    cases h2 : w[k]? with
    | none => rw [h2] at h1; cases h1
    | some q0 => rw [h2] at h1; exact ⟨q0, rfl, Option.some.inj h1⟩
  refine ⟨fun i j p q hi hj hpq => ?_, fun k q hk => ?_⟩
  · obtain ⟨p0, h1, h2⟩ := key i p hi
    obtain ⟨q0, h3, h4⟩ := key j q hj
    exact h.1 i j p0 q0 h1 h3 (by rw [h2, h4]; exact hpq)
  · obtain ⟨q0, h1, h2⟩ := key k q hk
    rw [← h2]; exact h.2 k q0 h1
theorem zD_ne {A : Nat → Prop} {w1 w2 : va_W} (h : va_D A (w1 ++ w2)) {q r : Nat × va_E} (hq : q ∈ w1) (hr : r ∈ w2) : q.1 ≠ r.1 := by
  obtain ⟨i, hi⟩ := List.getElem?_of_mem hq
  obtain ⟨j, hj⟩ := List.getElem?_of_mem hr
  have hl := (List.getElem?_eq_some_iff.mp hi).1
  intro e
  have h1 := h.1 i (w1.length + j) q r (by rw [List.getElem?_append_left hl]; exact hi) (by rw [List.getElem?_append_right (by omega), Nat.add_sub_cancel_left]; exact hj) e
  omega
theorem zD_left {A : Nat → Prop} {w1 w2 : va_W} (h : va_D A (w1 ++ w2)) : va_D A w1 :=
  ⟨fun i j p q hi hj => h.1 i j p q (by rw [List.getElem?_append_left (List.getElem?_eq_some_iff.mp hi).1]; exact hi) (by rw [List.getElem?_append_left (List.getElem?_eq_some_iff.mp hj).1]; exact hj),
   fun k q hk => h.2 k q (by rw [List.getElem?_append_left (List.getElem?_eq_some_iff.mp hk).1]; exact hk)⟩
theorem zD_right {A : Nat → Prop} {w1 w2 : va_W} (h : va_D A (w1 ++ w2)) : va_D A w2 :=
  ⟨fun i j p q hi hj e => by
      have := h.1 (w1.length + i) (w1.length + j) p q (by rw [List.getElem?_append_right (by omega), Nat.add_sub_cancel_left]; exact hi) (by rw [List.getElem?_append_right (by omega), Nat.add_sub_cancel_left]; exact hj) e
      omega,
   fun k q hk => h.2 (w1.length + k) q (by rw [List.getElem?_append_right (by omega), Nat.add_sub_cancel_left]; exact hk)⟩
theorem zD_two {A : Nat → Prop} {w1 w2 : va_W} (h1 : va_D A w1) (h2 : va_D A w2) (hn : ∀ q ∈ w1, ∀ r ∈ w2, q.1 ≠ r.1) : va_D A (w1 ++ w2) :=
  h1.app h2 (fun _ _ p q hp hq => hn p (List.mem_of_getElem? hp) q (List.mem_of_getElem? hq))
/-- two regions of a world are apart -/
theorem zD_reg {A : Nat → Prop} : ∀ {L : List va_W}, va_D A L.flatten → ∀ (i j : Nat) (a b : va_W), L[i]? = some a → L[j]? = some b → i ≠ j → ∀ q ∈ a, ∀ r ∈ b, q.1 ≠ r.1
  | [], _, i, _, a, _, hi, _, _ => by simp at hi
  | x :: L, h, i, j, a, b, hi, hj, hn => by
    rw [List.flatten_cons] at h
    cases i with
    | zero =>
      cases j with
      | zero => exact absurd rfl hn
      | succ j =>
        simp only [List.getElem?_cons_zero, Option.some.injEq, List.getElem?_cons_succ] at hi hj
        subst hi
        intro q hq r hr
        exact zD_ne h hq (List.mem_flatten.mpr ⟨b, List.mem_of_getElem? hj, hr⟩)
    | succ i =>
      cases j with
      | zero =>
        simp only [List.getElem?_cons_zero, Option.some.injEq, List.getElem?_cons_succ] at hi hj
        subst hj
        intro q hq r hr e
        exact zD_ne h hr (List.mem_flatten.mpr ⟨a, List.mem_of_getElem? hi, hq⟩) e.symm
      | succ j =>
        simp only [List.getElem?_cons_succ] at hi hj
        exact zD_reg (zD_right h) i j a b hi hj (fun e => hn (by rw [e]))
theorem zD_one {A : Nat → Prop} : ∀ {L : List va_W}, va_D A L.flatten → ∀ (i : Nat) (a : va_W), L[i]? = some a → va_D A a
  | [], _, i, a, hi => by simp at hi
  | x :: L, h, i, a, hi => by
    rw [List.flatten_cons] at h
    cases i with
    | zero => simp only [List.getElem?_cons_zero, Option.some.injEq] at hi; subst hi; exact zD_left h
    | succ i => simp only [List.getElem?_cons_succ] at hi; exact zD_one (zD_right h) i a hi
theorem zP_reg {D : va_G} {cl : List vw_C} {L : List va_W} {H : Heap} (h : va_P D cl L.flatten H) (i : Nat) {a : va_W} (hi : L[i]? = some a) : va_P D cl a H :=
  zP_mem.mpr fun q hq => zP_mem.mp h q (List.mem_flatten.mpr ⟨a, List.mem_of_getElem? hi, hq⟩)
theorem zP_reg2 {D : va_G} {cl : List vw_C} {L : List va_W} {H : Heap} (h : va_P D cl L.flatten H) (i j : Nat) {a b : va_W} (hi : L[i]? = some a) (hj : L[j]? = some b) : va_P D cl (a ++ b) H := (zP_reg h i hi).app (zP_reg h j hj)
theorem zP_reg3 {D : va_G} {cl : List vw_C} {L : List va_W} {H : Heap} (h : va_P D cl L.flatten H) (i j k : Nat) {a b c : va_W} (hi : L[i]? = some a) (hj : L[j]? = some b) (hk : L[k]? = some c) : va_P D cl (a ++ (b ++ c)) H := (zP_reg h i hi).app (zP_reg2 h j k hj hk)
theorem zD_reg2 {A : Nat → Prop} {L : List va_W} (h : va_D A L.flatten) (i j : Nat) {a b : va_W} (hi : L[i]? = some a) (hj : L[j]? = some b) (hn : i ≠ j) : va_D A (a ++ b) :=
  zD_two (zD_one h i a hi) (zD_one h j b hj) (zD_reg h i j a b hi hj hn)
theorem zD_reg3 {A : Nat → Prop} {L : List va_W} (h : va_D A L.flatten) (i j k : Nat) {a b c : va_W} (hi : L[i]? = some a) (hj : L[j]? = some b) (hk : L[k]? = some c) (h1 : i ≠ j) (h2 : i ≠ k) (h3 : j ≠ k) : va_D A (a ++ (b ++ c)) :=
  zD_two (zD_one h i a hi) (zD_reg2 h j k hj hk h3) (fun q hq r hr => by
    rcases List.mem_append.mp hr with e | e
    · exact zD_reg h i j a b hi hj h1 q hq r e
    · exact zD_reg h i k a c hi hk h2 q hq r e)
theorem z_setadr : ∀ (L : List va_W) (i : Nat) (a a' : va_W), L[i]? = some a → a'.map (·.1) = a.map (·.1) → (L.set i a').flatten.map (·.1) = L.flatten.map (·.1)
  | [], i, a, a', hi, _ => by simp at hi
  | x :: L, 0, a, a', hi, e => by
    simp only [List.getElem?_cons_zero, Option.some.injEq] at hi
    subst hi
    simp only [List.set_cons_zero, List.flatten_cons, List.map_append, e]
  | x :: L, i + 1, a, a', hi, e => by
    simp only [List.getElem?_cons_succ] at hi
    simp only [List.set_cons_succ, List.flatten_cons, List.map_append, z_setadr L i a a' hi e]
/-- the world behind a call that may have changed the cells wc -/
theorem z_back {D : va_G} {cl : List vw_C} {A0 : Nat → Prop} {L L' : List va_W} {wc w1 : va_W} {H H1 : Heap} (hP : va_P D cl L.flatten H) (hD : va_D A0 L.flatten) (hk : ∀ q : Nat, q < H.size → ¬ zA wc q → H1[q]? = H[q]?) (hP1 : va_P D cl w1 H1)
    (ha : L'.flatten.map (·.1) = L.flatten.map (·.1)) (hin : ∀ (k : Nat) (a : va_W), L'[k]? = some a → (∀ q ∈ a, q ∈ w1) ∨ (L[k]? = some a ∧ ∀ q ∈ a, ¬ zA wc q.1)) : va_P D cl L'.flatten H1 ∧ va_D A0 L'.flatten := by
  refine ⟨zP_mem.mpr fun q hq => ?_, zD_adr hD ha⟩
  obtain ⟨a, h1, h2⟩ := List.mem_flatten.mp hq
  obtain ⟨k, hk1⟩ := List.getElem?_of_mem h1
  rcases hin k a hk1 with h | ⟨h, h3⟩
  · exact zP_mem.mp hP1 q (h q h2)
  · have h4 : va_at D cl q H := zP_mem.mp hP q (List.mem_flatten.mpr ⟨a, List.mem_of_getElem? h, h2⟩)
    exact h4.kept (hk q.1 h4.lt (h3 q h2))
theorem z_set1 {D : va_G} {cl : List vw_C} {A0 : Nat → Prop} {L L' : List va_W} {wc w1 : va_W} {H H1 : Heap} (hP : va_P D cl L.flatten H) (hD : va_D A0 L.flatten) (i : Nat) (hi : L[i]? = some wc) (hL : L.set i w1 = L') (e : w1.map (·.1) = wc.map (·.1)) (hk : ∀ q : Nat, q < H.size → ¬ zA wc q → H1[q]? = H[q]?) (hP1 : va_P D cl w1 H1) : va_P D cl L'.flatten H1 ∧ va_D A0 L'.flatten := by
  subst hL
  refine z_back hP hD hk hP1 (z_setadr L i wc w1 hi e) (fun k a hka => ?_)
  by_cases h : k = i
  · subst h
    rw [List.getElem?_set_self (List.getElem?_eq_some_iff.mp hi).1] at hka
    cases hka
    exact Or.inl fun q h => h
  · rw [List.getElem?_set_ne (Ne.symm h)] at hka
    refine Or.inr ⟨hka, fun q hq hz => ?_⟩
    obtain ⟨r, hr, e1⟩ := List.mem_map.mp hz
    exact zD_reg hD k i a wc hka hi h q hq r hr e1.symm
theorem z_set2 {D : va_G} {cl : List vw_C} {A0 : Nat → Prop} {L L' : List va_W} {wa wb a1 b1 : va_W} {H H1 : Heap} (hP : va_P D cl L.flatten H) (hD : va_D A0 L.flatten) (i j : Nat) (hi : L[i]? = some wa) (hj : L[j]? = some wb) (hn : i ≠ j) (hL : (L.set i a1).set j b1 = L') (ea : a1.map (·.1) = wa.map (·.1)) (eb : b1.map (·.1) = wb.map (·.1)) (hk : ∀ q : Nat, q < H.size → ¬ zA (wa ++ wb) q → H1[q]? = H[q]?) (hP1 : va_P D cl (a1 ++ b1) H1) : va_P D cl L'.flatten H1 ∧ va_D A0 L'.flatten := by
  subst hL
  have hj2 : (L.set i a1)[j]? = some wb := by rw [List.getElem?_set_ne hn]; exact hj
  refine z_back hP hD hk hP1 ((z_setadr _ j wb b1 hj2 eb).trans (z_setadr L i wa a1 hi ea)) (fun k a hka => ?_)
  by_cases h : k = j
  · subst h
    rw [List.getElem?_set_self (List.getElem?_eq_some_iff.mp hj2).1] at hka
    cases hka
    exact Or.inl fun q h => List.mem_append_right _ h
  · rw [List.getElem?_set_ne (Ne.symm h)] at hka
    by_cases h2 : k = i
    · subst h2
      rw [List.getElem?_set_self (List.getElem?_eq_some_iff.mp hi).1] at hka
      cases hka
      exact Or.inl fun q h => List.mem_append_left _ h
    · rw [List.getElem?_set_ne (Ne.symm h2)] at hka
      refine Or.inr ⟨hka, fun q hq hz => ?_⟩
      obtain ⟨r, hr, e1⟩ := List.mem_map.mp hz
      rcases List.mem_append.mp hr with hr | hr
      · exact zD_reg hD k i a wa hka hi h2 q hq r hr e1.symm
      · exact zD_reg hD k j a wb hka hj h q hq r hr e1.symm
theorem z_set3 {D : va_G} {cl : List vw_C} {A0 : Nat → Prop} {L L' : List va_W} {wa wb wd a1 b1 d1 : va_W} {H H1 : Heap} (hP : va_P D cl L.flatten H) (hD : va_D A0 L.flatten) (i j k : Nat) (hi : L[i]? = some wa) (hj : L[j]? = some wb) (hd : L[k]? = some wd) (hn : i ≠ j) (hn2 : i ≠ k) (hn3 : j ≠ k) (hL : ((L.set i a1).set j b1).set k d1 = L') (ea : a1.map (·.1) = wa.map (·.1)) (eb : b1.map (·.1) = wb.map (·.1)) (ed : d1.map (·.1) = wd.map (·.1)) (hk : ∀ q : Nat, q < H.size → ¬ zA (wa ++ (wb ++ wd)) q → H1[q]? = H[q]?) (hP1 : va_P D cl (a1 ++ (b1 ++ d1)) H1) : va_P D cl L'.flatten H1 ∧ va_D A0 L'.flatten := by
  subst hL
  have hj2 : (L.set i a1)[j]? = some wb := by rw [List.getElem?_set_ne hn]; exact hj
  have hd2 : ((L.set i a1).set j b1)[k]? = some wd := by rw [List.getElem?_set_ne hn3, List.getElem?_set_ne hn2]; exact hd
  refine z_back hP hD hk hP1 ((z_setadr _ k wd d1 hd2 ed).trans ((z_setadr _ j wb b1 hj2 eb).trans (z_setadr L i wa a1 hi ea))) (fun x a hka => ?_)
  by_cases h : x = k
  · subst h
    rw [List.getElem?_set_self (List.getElem?_eq_some_iff.mp hd2).1] at hka
    cases hka
    exact Or.inl fun q h => List.mem_append_right _ (List.mem_append_right _ h)
  · rw [List.getElem?_set_ne (Ne.symm h)] at hka
    by_cases h2 : x = j
    · subst h2
      rw [List.getElem?_set_self (List.getElem?_eq_some_iff.mp hj2).1] at hka
      cases hka
      exact Or.inl fun q h => List.mem_append_right _ (List.mem_append_left _ h)
    · rw [List.getElem?_set_ne (Ne.symm h2)] at hka
      by_cases h3 : x = i
      · subst h3
        rw [List.getElem?_set_self (List.getElem?_eq_some_iff.mp hi).1] at hka
        cases hka
        exact Or.inl fun q h => List.mem_append_left _ h
      · rw [List.getElem?_set_ne (Ne.symm h3)] at hka
        refine Or.inr ⟨hka, fun q hq hz => ?_⟩
        obtain ⟨r, hr, e1⟩ := List.mem_map.mp hz
        rcases List.mem_append.mp hr with hr | hr
        · exact zD_reg hD x i a wa hka hi h3 q hq r hr e1.symm
        · rcases List.mem_append.mp hr with hr | hr
          · exact zD_reg hD x j a wb hka hj h2 q hq r hr e1.symm
          · exact zD_reg hD x k a wd hka hd h q hq r hr e1.symm
/-! contracts -/
def zQro (v : Option Value) : Array Value → State → Outcome → State → Prop := fun _ st oc t => oc = .returned v ∧ va_F (fun _ => False) st t
def zQmu (Z : zZ) (w w' : va_W) (v : Option Value) : Array Value → State → Outcome → State → Prop := fun _ st oc t => oc = .returned v ∧ va_P Z.1 vwCl w' t.heap ∧ va_F (zA w) st t
def zPro (Z : zZ) (w : va_W) (av : List Value) : Array Value → State → Prop := va_Pc av (fun U => va_P Z.1 vwCl w U.heap ∧ zK Z U)
def zPmu (Z : zZ) (w : va_W) (av : List Value) : Array Value → State → Prop := va_Pc av (fun U => va_P Z.1 vwCl w U.heap ∧ zK Z U ∧ va_D (fun _ => True) w)
/-- a method that writes nothing and makes nothing -/
def zRO (l : Launch) (y : MethodName) (ws : List Cond) (rm : Room) (Z : zZ) (av : List Value) (w : va_W) (v : Option Value) : Prop := Met l y ws rm (zPro Z w av) (zQro v) 0 0 (fun _ => False)
/-- a method that makes nothing, and writes in its world alone -/
def zMU (l : Launch) (y : MethodName) (ws : List Cond) (rm : Room) (Z : zZ) (av : List Value) (w w' : va_W) (v : Option Value) : Prop := Met l y ws rm (zPmu Z w av) (zQmu Z w w' v) 0 0 (zA w)
theorem zPro_blind {Z : zZ} {w : va_W} {av : List Value} : FrameBlind (zPro Z w av) := fun a U g mk h => ⟨h.1, h.2.1, h.2.2.same rfl⟩
theorem zPmu_blind {Z : zZ} {w : va_W} {av : List Value} : FrameBlind (zPmu Z w av) := fun a U g mk h => ⟨h.1, h.2.1, h.2.2.1.same rfl, h.2.2.2⟩
theorem zRO_of {l : Launch} {y : MethodName} {cc : ByteArray} {maxL : Nat} {ret : Option FieldType} {rm : Room} {Z : zZ} {av : List Value} {w : va_W} {v : Option Value} (hy : plainName y.cls = true) (hn : (lg_sl av).length ≤ maxL)
    (body : ∀ (p : Program) (e : Env) (s : State) (m : MethodId) (below : List Frame) (meth : Method) (c : Code), p.tables.exec = Jvm.exec → c.code = cc → meth.sig.returnType = ret → c.maxLocals = maxL → s.vm.findClass y.cls = some m.cls → (∀ w ∈ zG, w.before av.toArray s = true) → meth.locks = false → zK Z s →
      ∀ Q, Q = MQ below (zQro v) av.toArray s 0 0 (fun _ => False) → ∀ ls, lv_has ls maxL (lv_args 0 av) → va_P Z.1 vwCl w s.heap → va_S (fun _ => False) s.heap s.heap [] → W p l e rm s m av.toArray below meth c s.heap [] 0 0 Q (F0 m 0 ls [])) : zRO l y (zw y cc maxL ret) rm Z av w v := by
  refine Met.ofW (cc := cc) (maxL := maxL) (ret := ret) hy rfl ?_
  intro p e s m args below meth c s₁ B hml hv
  obtain ⟨rfl, hP, hK⟩ := hv
  have hts := atoms_spec (ws := zw y cc maxL ret) B.pre
  have hl := lv_entry av (n := maxL) hn
  rw [lg_entry_eq]
  exact body p e s m below meth c B.exec B.bytes B.returns hml (findClass_of_methodNamed B.named) (fun w h => hts w (List.mem_cons_of_mem _ h)) B.notSynchronized hK _ rfl _ hl hP va_S.rf
theorem zMU_of {l : Launch} {y : MethodName} {cc : ByteArray} {maxL : Nat} {ret : Option FieldType} {rm : Room} {Z : zZ} {av : List Value} {w w' : va_W} {v : Option Value} (hy : plainName y.cls = true) (hn : (lg_sl av).length ≤ maxL)
    (body : ∀ (p : Program) (e : Env) (s : State) (m : MethodId) (below : List Frame) (meth : Method) (c : Code), p.tables.exec = Jvm.exec → c.code = cc → meth.sig.returnType = ret → c.maxLocals = maxL → s.vm.findClass y.cls = some m.cls → (∀ w ∈ zG, w.before av.toArray s = true) → meth.locks = false → zK Z s →
      ∀ A, A = zA w → ∀ Q, Q = MQ below (zQmu Z w w' v) av.toArray s 0 0 A → ∀ ls, lv_has ls maxL (lv_args 0 av) → va_P Z.1 vwCl w s.heap → va_D A w → va_S A s.heap s.heap [] → W p l e rm s m av.toArray below meth c s.heap [] 0 0 Q (F0 m 0 ls [])) : zMU l y (zw y cc maxL ret) rm Z av w w' v := by
  refine Met.ofW (cc := cc) (maxL := maxL) (ret := ret) hy rfl ?_
  intro p e s m args below meth c s₁ B hml hv
  obtain ⟨rfl, hP, hK, hD⟩ := hv
  have hts := atoms_spec (ws := zw y cc maxL ret) B.pre
  have hl := lv_entry av (n := maxL) hn
  rw [lg_entry_eq]
  exact body p e s m below meth c B.exec B.bytes B.returns hml (findClass_of_methodNamed B.named) (fun w h => hts w (List.mem_cons_of_mem _ h)) B.notSynchronized hK _ rfl _ rfl _ hl hP (zD_self hD) va_S.rf
section ZC
variable {p : Program} {l : Launch} {e : Env} {R : Room} {s : State} {m : MethodId} {args : Array Value} {below : List Frame} {meth : Method} {c : Code} {H : Heap} {locs : List Loc} {cells slots : Nat} {Q : State → Prop}
variable {pc : Nat} {ls : Array Slot} {rest st0 : List Value} {a : Array Value} {A0 : Nat → Prop} {H0 : Heap} {Z : zZ} {ws : va_W} {v : Option Value}
/-- behind a call of a method that writes nothing -/
theorem z_ro (hr : va_Run p l e R s m args below meth c H locs cells slots 0 0 (F0 m pc ls st0) rest (zQro v a) (fun _ => False)) (hS : va_S A0 H0 H locs) (hP : va_P Z.1 vwCl ws H)
    (kk : ∀ (H1 : Heap) (locs1 : List Loc), va_P Z.1 vwCl ws H1 → va_S A0 H0 H1 locs1 → W p l e R s m args below meth c H1 locs1 cells slots Q (F0 m (pc + 3) ls (v.toList ++ rest))) : W p l e R s m args below meth c H locs cells slots Q (F0 m pc ls st0) := by
  intro T hT X
  obtain ⟨v', st₀, t, T', L, h0, X', hL, e1, e2, ⟨hv, hz, hk⟩, st⟩ := hr T hT X
  cases hv
  rw [h0] at hz hk
  have hk' : ∀ q : Nat, q < H.size → T'.heap[q]? = H[q]? := fun q h => by rw [e1]; exact hk q h (fun z => z)
  obtain ⟨t2, a1, b1⟩ := kk T'.heap (locs ++ L) (hP.kept fun k q hq => hk' q.1 (hP k q hq).lt)
    ⟨Nat.le_trans hS.1 (by rw [e1]; exact hz), fun q h1 h2 => by rw [hk' q (Nat.lt_of_lt_of_le h1 hS.1)]; exact hS.2.1 q h1 h2, fun q hq => by
      rcases List.mem_append.mp hq with h | h
      · exact hS.2.2 q h
      · exact (hL q h).elim⟩ T' rfl X'
  exact ⟨t2, st t2 a1, b1⟩
theorem z_ro_i {x : Int32} (hr : va_Run p l e R s m args below meth c H locs cells slots 0 0 (F0 m pc ls st0) rest (zQro (some (.int x)) a) (fun _ => False)) (hS : va_S A0 H0 H locs) (hP : va_P Z.1 vwCl ws H)
    (kk : ∀ (H1 : Heap) (locs1 : List Loc), va_P Z.1 vwCl ws H1 → va_S A0 H0 H1 locs1 → W p l e R s m args below meth c H1 locs1 cells slots Q (F0 m (pc + 3) ls (.int x :: rest))) : W p l e R s m args below meth c H locs cells slots Q (F0 m pc ls st0) := z_ro hr hS hP kk
theorem z_ro_l {x : Int64} (hr : va_Run p l e R s m args below meth c H locs cells slots 0 0 (F0 m pc ls st0) rest (zQro (some (.long x)) a) (fun _ => False)) (hS : va_S A0 H0 H locs) (hP : va_P Z.1 vwCl ws H)
    (kk : ∀ (H1 : Heap) (locs1 : List Loc), va_P Z.1 vwCl ws H1 → va_S A0 H0 H1 locs1 → W p l e R s m args below meth c H1 locs1 cells slots Q (F0 m (pc + 3) ls (.long x :: rest))) : W p l e R s m args below meth c H locs cells slots Q (F0 m pc ls st0) := z_ro hr hS hP kk
/-- behind a call of a method that writes in the cells wc -/
theorem z_mu {wc w1 : va_W} {L : List va_W} (hr : va_Run p l e R s m args below meth c H locs cells slots 0 0 (F0 m pc ls st0) rest (zQmu Z wc w1 v a) (zA wc)) (hS : va_S A0 H0 H locs) (hP : va_P Z.1 vwCl L.flatten H) (hD : va_D A0 L.flatten) (hc : ∀ q, zA wc q → A0 q)
    {L' : List va_W} (hj : ∀ H1 : Heap, (∀ q : Nat, q < H.size → ¬ zA wc q → H1[q]? = H[q]?) → va_P Z.1 vwCl w1 H1 → va_P Z.1 vwCl L'.flatten H1 ∧ va_D A0 L'.flatten)
    (kk : ∀ (H1 : Heap) (locs1 : List Loc), va_P Z.1 vwCl L'.flatten H1 → va_D A0 L'.flatten → va_S A0 H0 H1 locs1 → W p l e R s m args below meth c H1 locs1 cells slots Q (F0 m (pc + 3) ls (v.toList ++ rest))) : W p l e R s m args below meth c H locs cells slots Q (F0 m pc ls st0) := by
  intro T hT X
  obtain ⟨v', st₀, t, T', Lc, h0, X', hL, e1, e2, ⟨hv, hp, hz, hk⟩, st⟩ := hr T hT X
  cases hv
  rw [h0] at hz hk
  have hk' : ∀ q : Nat, q < H.size → ¬ zA wc q → T'.heap[q]? = H[q]? := fun q h h2 => by rw [e1]; exact hk q h h2
  obtain ⟨hP1, hD1⟩ := hj T'.heap hk' (by rw [e1]; exact hp)
  obtain ⟨t2, a1, b1⟩ := kk T'.heap (locs ++ Lc) hP1 hD1
    ⟨Nat.le_trans hS.1 (by rw [e1]; exact hz), fun q h1 h2 => by rw [hk' q (Nat.lt_of_lt_of_le h1 hS.1) (fun z => h2 (hc q z))]; exact hS.2.1 q h1 h2, fun q hq => by
      rcases List.mem_append.mp hq with h | h
      · exact hS.2.2 q h
      · exact hc _ (hL q h)⟩ T' rfl X'
  exact ⟨t2, st t2 a1, b1⟩
theorem z_zA {wc : va_W} (hD : va_D A0 wc) : ∀ q, zA wc q → A0 q := fun q h => by
  obtain ⟨r, hr, e⟩ := List.mem_map.mp h
  obtain ⟨k, hk⟩ := List.getElem?_of_mem hr
  rw [← e]; exact hD.2 k r hk
theorem z_mu0 {wc w1 : va_W} (hr : va_Run p l e R s m args below meth c H locs cells slots 0 0 (F0 m pc ls st0) rest (zQmu Z wc w1 v a) (zA wc)) (hS : va_S A0 H0 H locs) (hD : va_D A0 wc) (ha : w1.map (·.1) = wc.map (·.1))
    (kk : ∀ (H1 : Heap) (locs1 : List Loc), va_P Z.1 vwCl w1 H1 → va_D A0 w1 → va_S A0 H0 H1 locs1 → W p l e R s m args below meth c H1 locs1 cells slots Q (F0 m (pc + 3) ls (v.toList ++ rest))) : W p l e R s m args below meth c H locs cells slots Q (F0 m pc ls st0) := by
  intro T hT X
  obtain ⟨v', st₀, t, T', Lc, h0, X', hL, e1, e2, ⟨hv, hp, hz, hk⟩, st⟩ := hr T hT X
  cases hv
  rw [h0] at hz hk
  have hc := z_zA hD
  obtain ⟨t2, a1, b1⟩ := kk T'.heap (locs ++ Lc) (by rw [e1]; exact hp) (zD_adr hD ha)
    ⟨Nat.le_trans hS.1 (by rw [e1]; exact hz), fun q h1 h2 => by rw [e1, hk q (Nat.lt_of_lt_of_le h1 hS.1) (fun z => h2 (hc q z))]; exact hS.2.1 q h1 h2, fun q hq => by
      rcases List.mem_append.mp hq with h | h
      · exact hS.2.2 q h
      · exact hc _ (hL q h)⟩ T' rfl X'
  exact ⟨t2, st t2 a1, b1⟩
theorem z_mu1 {wc w1 : va_W} {L : List va_W} (hr : va_Run p l e R s m args below meth c H locs cells slots 0 0 (F0 m pc ls st0) rest (zQmu Z wc w1 v a) (zA wc)) (hS : va_S A0 H0 H locs) (hP : va_P Z.1 vwCl L.flatten H) (hD : va_D A0 L.flatten) (i : Nat) (hi : L[i]? = some wc) {L' : List va_W} (hL : L.set i w1 = L') (ha : w1.map (·.1) = wc.map (·.1))
    (kk : ∀ (H1 : Heap) (locs1 : List Loc), va_P Z.1 vwCl L'.flatten H1 → va_D A0 L'.flatten → va_S A0 H0 H1 locs1 → W p l e R s m args below meth c H1 locs1 cells slots Q (F0 m (pc + 3) ls (v.toList ++ rest))) : W p l e R s m args below meth c H locs cells slots Q (F0 m pc ls st0) :=
  z_mu hr hS hP hD (z_zA (zD_one hD i wc hi)) (fun _ hk hp => z_set1 hP hD i hi hL ha hk hp) kk
theorem z_mu2 {wa wb a1 b1 : va_W} {L : List va_W} (hr : va_Run p l e R s m args below meth c H locs cells slots 0 0 (F0 m pc ls st0) rest (zQmu Z (List.flatten [wa, wb]) (List.flatten [a1, b1]) v a) (zA (List.flatten [wa, wb]))) (hS : va_S A0 H0 H locs) (hP : va_P Z.1 vwCl L.flatten H) (hD : va_D A0 L.flatten) (i j : Nat) (hi : L[i]? = some wa) (hj : L[j]? = some wb) (hn : i ≠ j) {L' : List va_W} (hL : (L.set i a1).set j b1 = L') (ea : a1.map (·.1) = wa.map (·.1)) (eb : b1.map (·.1) = wb.map (·.1))
    (kk : ∀ (H1 : Heap) (locs1 : List Loc), va_P Z.1 vwCl L'.flatten H1 → va_D A0 L'.flatten → va_S A0 H0 H1 locs1 → W p l e R s m args below meth c H1 locs1 cells slots Q (F0 m (pc + 3) ls (v.toList ++ rest))) : W p l e R s m args below meth c H locs cells slots Q (F0 m pc ls st0) :=
by
  have e1 : List.flatten [wa, wb] = wa ++ wb := by simp
  have e2 : List.flatten [a1, b1] = a1 ++ b1 := by simp
  rw [e1, e2] at hr
  exact z_mu hr hS hP hD (z_zA (zD_reg2 hD i j hi hj hn)) (fun _ hk hp => z_set2 hP hD i j hi hj hn hL ea eb hk hp) kk
theorem z_mu3 {wa wb wd a1 b1 d1 : va_W} {L : List va_W} (hr : va_Run p l e R s m args below meth c H locs cells slots 0 0 (F0 m pc ls st0) rest (zQmu Z (List.flatten [wa, wb, wd]) (List.flatten [a1, b1, d1]) v a) (zA (List.flatten [wa, wb, wd]))) (hS : va_S A0 H0 H locs) (hP : va_P Z.1 vwCl L.flatten H) (hD : va_D A0 L.flatten) (i j k : Nat) (hi : L[i]? = some wa) (hj : L[j]? = some wb) (hk : L[k]? = some wd) (hn : i ≠ j) (hn2 : i ≠ k) (hn3 : j ≠ k) {L' : List va_W} (hL : ((L.set i a1).set j b1).set k d1 = L') (ea : a1.map (·.1) = wa.map (·.1)) (eb : b1.map (·.1) = wb.map (·.1)) (ed : d1.map (·.1) = wd.map (·.1))
    (kk : ∀ (H1 : Heap) (locs1 : List Loc), va_P Z.1 vwCl L'.flatten H1 → va_D A0 L'.flatten → va_S A0 H0 H1 locs1 → W p l e R s m args below meth c H1 locs1 cells slots Q (F0 m (pc + 3) ls (v.toList ++ rest))) : W p l e R s m args below meth c H locs cells slots Q (F0 m pc ls st0) :=
by
  have e1 : List.flatten [wa, wb, wd] = wa ++ (wb ++ wd) := by simp
  have e2 : List.flatten [a1, b1, d1] = a1 ++ (b1 ++ d1) := by simp
  rw [e1, e2] at hr
  exact z_mu hr hS hP hD (z_zA (zD_reg3 hD i j k hi hj hk hn hn2 hn3)) (fun _ hk' hp => z_set3 hP hD i j k hi hj hk hn hn2 hn3 hL ea eb ed hk' hp) kk
end ZC
/-! what the tables say of a method, once a method -/
def zVt (y : MethodName) (cc : ByteArray) (maxL : Nat) (ret : Option FieldType) (n : Nat) : Prop := Cond.instanceMethod y ∈ zG ∧ Cond.selects y.cls y y ∈ zG ∧ Cond.initialized y.cls ∈ zG ∧ Cond.code y cc maxL ret ∈ zG ∧ (y.cls ≠ "java/lang/invoke/MethodHandle" ∧ y.cls ≠ "java/lang/invoke/VarHandle" ∧ (parseMethodDescriptor y.desc).map (fun d => d.parameters.length) = some n)
def zSt (y : MethodName) (cc : ByteArray) (maxL : Nat) (ret : Option FieldType) (n : Nat) : Prop := Cond.static y ∈ zG ∧ Cond.initialized y.cls ∈ zG ∧ Cond.code y cc maxL ret ∈ zG ∧ (y.cls ≠ "java/lang/invoke/MethodHandle" ∧ y.cls ≠ "java/lang/invoke/VarHandle" ∧ (parseMethodDescriptor y.desc).map (fun d => d.parameters.length) = some n)
section ZR
variable {p : Program} {l : Launch} {e : Env} {R : Room} {s : State} {m : MethodId} {args : Array Value} {below : List Frame} {meth : Method} {c : Code} {H : Heap} {locs : List Loc} {cells slots : Nat}
variable {y : MethodName} {bytes cc : ByteArray} {maxL nL n index : Nat} {ret : Option FieldType} {rm : Room} {Z : zZ} {w w' : va_W} {v : Option Value} {own : String} {b : Addr} {As rest : List Value} {pc : Nat} {ls : Array Slot}
theorem z_good1 {w0 : Cond} (h : w0 ∈ zG) : w0 ∈ zG ∧ ((w0.onTables && w0.keeps) = true ∨ ∃ ty, w0 = .arrayClass ty) := zG_ok _ h
theorem z_goodV (hl : Cond.methodLink own index y ∈ zG) (hv : zVt y bytes maxL ret n) : GoodIn zG (wsV own index y.cls y (zw y bytes maxL ret)) := by
  intro w0 h
  rcases List.mem_append.mp h with h | h
  · simp only [List.mem_cons, List.not_mem_nil, or_false] at h
    rcases h with h | h | h | h <;> subst h
    · exact z_good1 hl
    · exact z_good1 hv.1
    · exact z_good1 hv.2.1
    · exact z_good1 hv.2.2.1
  · rcases List.mem_cons.mp h with h | h
    · subst h; exact z_good1 hv.2.2.2.1
    · exact z_good1 h
theorem z_goodC (h4 : Cond.code y bytes maxL ret ∈ zG) : GoodIn zG (zw y bytes maxL ret) := by
  intro w0 h
  rcases List.mem_cons.mp h with h | h
  · subst h; exact z_good1 h4
  · exact z_good1 h
/-- the receiver's class, out of its cell -/
theorem z_recv {ws : va_W} {q : vw_C} {ci q0 : Nat} {fs : List Value} (hK : zK Z s) (hP : va_P Z.1 vwCl ws H) (he : ws[q0]? = some (b, .inr (ci, fs))) (hc : vwCl[ci]? = some q) : ∃ cellB : Cell, H[b]? = some cellB ∧ cellB.vm.isStatics = false ∧ s.vm.findClass q.1 = some cellB.cls := va_recv hK.1 hP hc he
theorem z_rV (hx : p.tables.exec = Jvm.exec) (hb : c.code = cc) (hml : c.maxLocals = nL) (hown : s.vm.findClass own = some m.cls) (hts : ∀ w ∈ zG, w.before args s = true) (hv : zVt y bytes maxL ret n) {Pc : Array Value → State → Prop} {Qc : Array Value → State → Outcome → State → Prop} {free : Addr → Prop} (hM : Met l y (zw y bytes maxL ret) rm Pc Qc 0 0 free) (hrc : rm.cells = 0) (hrs : rm.slots = 0) (hR : rm.frames + 1 ≤ R.frames ∧ 8 + (maxL + 11) + rm.locals ≤ R.locals) (hl : Cond.methodLink own index y ∈ zG)
    (hbl : FrameBlind Pc) (hrv : ∃ cellB : Cell, H[b]? = some cellB ∧ cellB.vm.isStatics = false ∧ s.vm.findClass y.cls = some cellB.cls) (hpre : ∀ U : State, U.heap = H → s.WarmedH U.vm → Pc (Value.ref b :: As).toArray U)
    (hn : As.length = n) (hls : ls.size = nL) (hW : (rest.map fun v => v.category).sum ≤ 8) (hdg : decode cc pc = .ok (.invokevirtual index, 3)) (hf : cells ≤ R.cells ∧ slots ≤ R.slots) :
    va_Run p l e R s m args below meth c H locs cells slots 0 0 (F0 m pc ls (As.reverse ++ .ref b :: rest)) rest (Qc (Value.ref b :: As).toArray) free :=
  va_runV (C := y.cls) (As := As) (rest := rest) ⟨hx, hb, hml, hown, hts⟩ hM (cwV n hts (z_goodV hl hv) rfl hrc hrs ⟨rfl, hv.2.2.2.2⟩ hR) ⟨hbl, hrv, hpre⟩ rfl hn hls rfl (lv_room hW) hdg hf
theorem z_rS (hx : p.tables.exec = Jvm.exec) (hb : c.code = cc) (hml : c.maxLocals = nL) (hown : s.vm.findClass own = some m.cls) (hts : ∀ w ∈ zG, w.before args s = true) (hv : zSt y bytes maxL ret n) {Pc : Array Value → State → Prop} {Qc : Array Value → State → Outcome → State → Prop} {free : Addr → Prop} (hM : Met l y (zw y bytes maxL ret) rm Pc Qc 0 0 free) (hrc : rm.cells = 0) (hrs : rm.slots = 0) (hR : rm.frames + 1 ≤ R.frames ∧ 8 + (maxL + 11) + rm.locals ≤ R.locals) (hl : Cond.methodLink own index y ∈ zG)
    (hbl : FrameBlind Pc) (hpre : ∀ U : State, U.heap = H → s.WarmedH U.vm → Pc As.toArray U)
    (hn : As.length = n) (hls : ls.size = nL) (hW : (rest.map fun v => v.category).sum ≤ 8) (hdg : decode cc pc = .ok (.invokestatic index, 3)) (hf : cells ≤ R.cells ∧ slots ≤ R.slots) :
    va_Run p l e R s m args below meth c H locs cells slots 0 0 (F0 m pc ls (As.reverse ++ rest)) rest (Qc As.toArray) free :=
  va_runS (As := As) (rest := rest) ⟨hx, hb, hml, hown, hts⟩ hM ⟨callB_of n hts (z_goodC hv.2.2.1) rfl hrc hrs (hts _ hv.2.1) (hts _ hl) hv.2.2.2 hR, hts _ hv.1⟩ ⟨hbl, hpre⟩ rfl hn hls rfl (lv_room hW) hdg hf
theorem z_rSN {host : String} (hx : p.tables.exec = Jvm.exec) (hb : c.code = cc) (hml : c.maxLocals = nL) (hown : s.vm.findClass own = some m.cls) (hts : ∀ w ∈ zG, w.before args s = true) (hv : zSt y bytes maxL ret n) {Pc : Array Value → State → Prop} {Qc : Array Value → State → Outcome → State → Prop} {free : Addr → Prop} (hM : Met l y (zw y bytes maxL ret) rm Pc Qc 0 0 free) (hrc : rm.cells = 0) (hrs : rm.slots = 0) (hR : rm.frames + 1 ≤ R.frames ∧ 8 + (maxL + 11) + rm.locals ≤ R.locals) (hl : va_Nw (.methodLinkNest own index y host) s)
    (hbl : FrameBlind Pc) (hpre : ∀ U : State, U.heap = H → s.WarmedH U.vm → Pc As.toArray U)
    (hn : As.length = n) (hls : ls.size = nL) (hW : (rest.map fun v => v.category).sum ≤ 8) (hdg : decode cc pc = .ok (.invokestatic index, 3)) (hf : cells ≤ R.cells ∧ slots ≤ R.slots) :
    va_Run p l e R s m args below meth c H locs cells slots 0 0 (F0 m pc ls (As.reverse ++ rest)) rest (Qc As.toArray) free :=
  va_runSN (As := As) (rest := rest) ⟨hx, hb, hml, hown, hts⟩ hM ⟨va_cnB n hts (z_goodC hv.2.2.1) rfl hrc hrs hl (hts _ hv.2.1) hv.2.2.2 hR, hts _ hv.1, trivial⟩ ⟨hbl, hpre⟩ rfl hn hls rfl (lv_room hW) hdg hf
theorem z_prec (hK : zK Z s) (hP : va_P Z.1 vwCl w H) {av : List Value} : ∀ U : State, U.heap = H → s.WarmedH U.vm → zPro Z w av av.toArray U := fun U hU hW => ⟨rfl, by rw [hU]; exact hP, hK.warm hW⟩
theorem z_prem (hK : zK Z s) (hP : va_P Z.1 vwCl w H) {A0 : Nat → Prop} (hD : va_D A0 w) {av : List Value} : ∀ U : State, U.heap = H → s.WarmedH U.vm → zPmu Z w av av.toArray U := fun U hU hW => ⟨rfl, by rw [hU]; exact hP, hK.warm hW, hD.weaken (fun _ _ _ _ => trivial)⟩
end ZR
