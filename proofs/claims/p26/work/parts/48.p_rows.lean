-- rows for the law's own methods: worlds of many regions, calls over some of them
theorem zP_n {D : va_G} {cl : List vw_C} {H : Heap} : va_P D cl (List.flatten []) H := fun k q h => by simp at h
theorem zP_c {D : va_G} {cl : List vw_C} {H : Heap} {w : va_W} {ws : List va_W} (h1 : va_P D cl w H) (h2 : va_P D cl ws.flatten H) : va_P D cl (w :: ws).flatten H := by rw [List.flatten_cons]; exact h1.app h2
abbrev zT3 : Type := Nat × va_W × va_W
def zq_L (q : List zT3) (L : List va_W) : List va_W := q.foldl (fun L t => L.set t.1 t.2.2) L
def zq_ok (q : List zT3) (L : List va_W) : Prop := ∀ t ∈ q, L[t.1]? = some t.2.1 ∧ t.2.2.map (·.1) = t.2.1.map (·.1)
theorem zq_next {t : zT3} {q : List zT3} {L : List va_W} (h : zq_ok (t :: q) L) (hn : ((t :: q).map (·.1)).Nodup) : zq_ok q (L.set t.1 t.2.2) := by
  intro t' ht'
  obtain ⟨h1, h2⟩ := h t' (List.mem_cons_of_mem _ ht')
  refine ⟨?_, h2⟩
  rw [List.map_cons, List.nodup_cons] at hn
  rw [List.getElem?_set_ne (fun e => hn.1 (by rw [e]; exact List.mem_map_of_mem ht'))]
  exact h1
theorem zq_adr : ∀ (q : List zT3) (L : List va_W), zq_ok q L → (q.map (·.1)).Nodup → (zq_L q L).flatten.map (·.1) = L.flatten.map (·.1)
  | [], _, _, _ => rfl
  | t :: q, L, h, hn => by
    have h1 := h t List.mem_cons_self
    have ih := zq_adr q (L.set t.1 t.2.2) (zq_next h hn) (List.nodup_cons.mp (by rw [List.map_cons] at hn; exact hn)).2
    exact ih.trans (z_setadr L t.1 t.2.1 t.2.2 h1.1 h1.2)
theorem zq_get : ∀ (q : List zT3) (L : List va_W), zq_ok q L → (q.map (·.1)).Nodup → ∀ (k : Nat) (a : va_W), (zq_L q L)[k]? = some a → (∃ t ∈ q, t.2.2 = a) ∨ (L[k]? = some a ∧ ∀ t ∈ q, t.1 ≠ k)
  | [], _, _, _, k, a, ha => Or.inr ⟨ha, fun t h => absurd h List.not_mem_nil⟩
  | t :: q, L, h, hn, k, a, ha => by
    have h1 := h t List.mem_cons_self
    rcases zq_get q (L.set t.1 t.2.2) (zq_next h hn) (List.nodup_cons.mp (by rw [List.map_cons] at hn; exact hn)).2 k a ha with ⟨t', b1, b2⟩ | ⟨b1, b2⟩
    · exact Or.inl ⟨t', List.mem_cons_of_mem _ b1, b2⟩
    · by_cases e : t.1 = k
      · subst e
        rw [List.getElem?_set_self (List.getElem?_eq_some_iff.mp h1.1).1] at b1
        exact Or.inl ⟨t, List.mem_cons_self, Option.some.inj b1⟩
      · rw [List.getElem?_set_ne e] at b1
        refine Or.inr ⟨b1, fun t' ht' => ?_⟩
        rcases List.mem_cons.mp ht' with h9 | h9
        · subst h9; exact e
        · exact b2 t' h9
/-- some regions of a world, in any order -/
theorem zDq {A : Nat → Prop} : ∀ (q : List zT3) {L : List va_W}, va_D A L.flatten → zq_ok q L → (q.map (·.1)).Nodup → va_D A (q.map (·.2.1)).flatten
  | [], _, _, _, _ => ⟨fun i j p q h => by simp at h, fun k q h => by simp at h⟩
  | t :: q, L, hD, h, hn => by
    rw [List.map_cons] at hn
    have hn2 := List.nodup_cons.mp hn
    rw [List.map_cons, List.flatten_cons]
    refine zD_two (zD_one hD t.1 _ (h t List.mem_cons_self).1) (zDq q hD (fun t' ht' => h t' (List.mem_cons_of_mem _ ht')) hn2.2) (fun x hx r hr => ?_)
    obtain ⟨a, h1, h2⟩ := List.mem_flatten.mp hr
    obtain ⟨t', h3, rfl⟩ := List.mem_map.mp h1
    exact zD_reg hD t.1 t'.1 _ _ (h t List.mem_cons_self).1 (h t' (List.mem_cons_of_mem _ h3)).1 (fun e => hn2.1 (by rw [e]; exact List.mem_map_of_mem h3)) x hx r h2
theorem z_setN {D : va_G} {cl : List vw_C} {A0 : Nat → Prop} {L L' : List va_W} {wc w1 : va_W} {H H1 : Heap} (q : List zT3) (hP : va_P D cl L.flatten H) (hD : va_D A0 L.flatten) (hq : zq_ok q L) (hn : (q.map (·.1)).Nodup) (hL : zq_L q L = L') (hw : (q.map (·.2.1)).flatten = wc) (hw1 : (q.map (·.2.2)).flatten = w1)
    (hk : ∀ a : Nat, a < H.size → ¬ zA wc a → H1[a]? = H[a]?) (hP1 : va_P D cl w1 H1) : va_P D cl L'.flatten H1 ∧ va_D A0 L'.flatten := by
  subst hL
  subst hw
  subst hw1
  refine z_back hP hD hk hP1 (zq_adr q L hq hn) (fun k a hka => ?_)
  rcases zq_get q L hq hn k a hka with ⟨t, b1, b2⟩ | ⟨b1, b2⟩
  · exact Or.inl fun x hx => List.mem_flatten.mpr ⟨t.2.2, List.mem_map_of_mem b1, by rw [b2]; exact hx⟩
  · refine Or.inr ⟨b1, fun x hx hz => ?_⟩
    obtain ⟨r, hr, e1⟩ := List.mem_map.mp hz
    obtain ⟨a', h1, h2⟩ := List.mem_flatten.mp hr
    obtain ⟨t, h3, rfl⟩ := List.mem_map.mp h1
    exact zD_reg hD k t.1 a _ b1 (hq t h3).1 (fun e => b2 t h3 e.symm) x hx r h2 e1.symm
/-- a method that makes things, throws inside and catches, and writes in its world -/
def zPk (Z : zZ) (sa : Nat → Nat) (w : va_W) (sz : Nat) (av : List Value) : Array Value → State → Prop := va_Pc av (fun U => U.heap.size = sz ∧ va_P Z.1 vwCl w U.heap ∧ zK Z U ∧ va_D (fun _ => True) w ∧ zTh sa (va_A w sz) U U.heap ∧ zNc U)
def zKM (l : Launch) (y : MethodName) (ws : List Cond) (rm : Room) (Z : zZ) (sa : Nat → Nat) (sz : Nat) (av : List Value) (w w' : va_W) (v : Option Value) (mc ms : Nat) : Prop := Met l y ws rm (zPk Z sa w sz av) (zQmk Z w sz w' v) mc ms (va_A w sz)
theorem zPk_blind {Z : zZ} {sa : Nat → Nat} {w : va_W} {sz : Nat} {av : List Value} : FrameBlind (zPk Z sa w sz av) := fun a U g mk h => ⟨h.1, h.2.1, h.2.2.1, h.2.2.2.1.same rfl, h.2.2.2.2.1, zTh.same (u := U) (H := U.heap) rfl h.2.2.2.2.2.1, zNc.moved (u := U) (Vm.Alike.refl U.vm) h.2.2.2.2.2.2⟩
theorem zKM_of {l : Launch} {y : MethodName} {cc : ByteArray} {maxL : Nat} {ret : Option FieldType} {rm : Room} {Z : zZ} {sa : Nat → Nat} {sz : Nat} {av : List Value} {w w' : va_W} {v : Option Value} {mc ms : Nat} (hy : plainName y.cls = true) (hn : (lg_sl av).length ≤ maxL)
    (body : ∀ (p : Program) (e : Env) (s : State) (m : MethodId) (below : List Frame) (meth : Method) (c : Code), p.tables.exec = Jvm.exec → c.code = cc → meth.sig.returnType = ret → c.maxLocals = maxL → s.vm.findClass y.cls = some m.cls → (∀ w ∈ zG, w.before av.toArray s = true) → meth.locks = false → zK Z s → zTh sa (va_A w sz) s s.heap → zNc s →
      ∀ A, A = va_A w sz → (∀ q, s.heap.size ≤ q → A q) → ∀ Q, Q = MQ below (zQmk Z w sz w' v) av.toArray s mc ms A → ∀ ls, lv_has ls maxL (lv_args 0 av) → va_P Z.1 vwCl w s.heap → va_D A w → va_S A s.heap s.heap [] → W p l e rm s m av.toArray below meth c s.heap [] 0 0 Q (F0 m 0 ls [])) : zKM l y (zw y cc maxL ret) rm Z sa sz av w w' v mc ms := by
  refine Met.ofW (cc := cc) (maxL := maxL) (ret := ret) hy rfl ?_
  intro p e s m args below meth c s₁ B hml hv
  obtain ⟨rfl, hsz, hP, hK, hD, hT, hN⟩ := hv
  have hts := atoms_spec (ws := zw y cc maxL ret) B.pre
  have hl := lv_entry av (n := maxL) hn
  rw [lg_entry_eq]
  exact body p e s m below meth c B.exec B.bytes B.returns hml (findClass_of_methodNamed B.named) (fun w h => hts w (List.mem_cons_of_mem _ h)) B.notSynchronized hK hT hN _ rfl (fun q h => Or.inr (by rw [← hsz]; exact h)) _ rfl _ hl hP hD.self va_S.rf
/-- a wrapper whose call does not throw: it reads alone -/
def zLR (l : Launch) (y : MethodName) (ws : List Cond) (rm : Room) (Z : zZ) (av : List Value) (w : va_W) (v : Option Value) : Prop := Met l y ws rm (zPro Z w av) (zQro v) 0 0 (fun _ => False)
theorem zLR_of {l : Launch} {y : MethodName} {cc : ByteArray} {maxL : Nat} {hh : List (Nat × Nat × Nat × Nat)} {rm : Room} {Z : zZ} {av : List Value} {w : va_W} {v : Option Value} (hy : plainName y.cls = true) (hn : (lg_sl av).length ≤ maxL)
    (body : ∀ (p : Program) (e : Env) (s : State) (m : MethodId) (below : List Frame) (meth : Method) (c : Code), p.tables.exec = Jvm.exec → c.code = cc → meth.sig.returnType = some .int → c.maxLocals = maxL → s.vm.findClass y.cls = some m.cls → (∀ w ∈ zG, w.before av.toArray s = true) → meth.locks = false → zK Z s →
      ∀ Q, Q = vx_MQ below (zQro v) (fun _ _ _ => False) av.toArray s 0 0 (fun _ => False) → ∀ ls, lv_has ls maxL (lv_args 0 av) → va_P Z.1 vwCl w s.heap → va_S (fun _ => False) s.heap s.heap [] → W p l e rm s m av.toArray below meth c s.heap [] 0 0 Q (F0 m 0 ls [])) : zLR l y (zwL y cc maxL hh) rm Z av w v := by
  refine met_of_vx (vx_ofWH (cc := cc) (maxL := maxL) (ret := some .int) (hh := hh) hy rfl ?_)
  intro p e s m args below meth c s₁ B hml hv
  obtain ⟨rfl, hP, hK⟩ := hv
  have hts := atoms_spec (ws := zwL y cc maxL hh) B.pre
  have hl := lv_entry av (n := maxL) hn
  rw [lg_entry_eq]
  exact body p e s m below meth c B.exec B.bytes B.returns hml (findClass_of_methodNamed B.named) (fun w h => hts w (List.mem_cons_of_mem _ h)) B.notSynchronized hK _ rfl _ hl hP va_S.rf
section ZN
variable {p : Program} {l : Launch} {e : Env} {R : Room} {s : State} {m : MethodId} {args : Array Value} {below : List Frame} {meth : Method} {c : Code} {H : Heap} {locs : List Loc} {cells slots : Nat} {Q : State → Prop}
variable {cc : ByteArray} {pc : Nat} {ls : Array Slot} {rest st0 : List Value} {a : Array Value} {A0 : Nat → Prop} {H0 : Heap} {Z : zZ} {sa : Nat → Nat} {L L' : List va_W}
/-- behind a call that may have written in some regions, and may have made things that it left -/
theorem z_muN {wc w1 : va_W} {mc ms : Nat} {v : Option Value} (q : List zT3) (hr : va_Run p l e R s m args below meth c H locs cells slots mc ms (F0 m pc ls st0) rest (zQmu Z wc w1 v a) (zA wc)) (hS : va_S A0 H0 H locs) (hP : va_P Z.1 vwCl L.flatten H) (hD : va_D A0 L.flatten) (hq : zq_ok q L) (hn : (q.map (·.1)).Nodup) (hL : zq_L q L = L') (hw : (q.map (·.2.1)).flatten = wc) (hw1 : (q.map (·.2.2)).flatten = w1)
    (kk : ∀ (H1 : Heap) (locs1 : List Loc), va_P Z.1 vwCl L'.flatten H1 → va_D A0 L'.flatten → va_S A0 H0 H1 locs1 → W p l e R s m args below meth c H1 locs1 (cells + mc) (slots + ms) Q (F0 m (pc + 3) ls (v.toList ++ rest))) : W p l e R s m args below meth c H locs cells slots Q (F0 m pc ls st0) := by
  have hc : ∀ q, zA wc q → A0 q := z_zA (by rw [← hw]; exact zDq q hD hq hn)
  intro T hT X
  obtain ⟨v', st₀, t, T', Lc, h0, X', hL9, e1, e2, ⟨hv, hp, hz, hk⟩, st⟩ := hr T hT X
  cases hv
  rw [h0] at hz hk
  have hk' : ∀ q : Nat, q < H.size → ¬ zA wc q → T'.heap[q]? = H[q]? := fun q h h2 => by rw [e1]; exact hk q h h2
  obtain ⟨hP1, hD1⟩ := z_setN q hP hD hq hn hL hw hw1 hk' (by rw [e1]; exact hp)
  obtain ⟨t2, a1, b1⟩ := kk T'.heap (locs ++ Lc) hP1 hD1
    ⟨Nat.le_trans hS.1 (by rw [e1]; exact hz), fun q h1 h2 => by rw [hk' q (Nat.lt_of_lt_of_le h1 hS.1) (fun z => h2 (hc q z))]; exact hS.2.1 q h1 h2, fun q hq => by
      rcases List.mem_append.mp hq with h | h
      · exact hS.2.2 q h
      · exact hc _ (hL9 q h)⟩ T' rfl X'
  exact ⟨t2, st t2 a1, b1⟩
/-- the cells of some regions, and all that comes behind -/
theorem zkA {wc : va_W} (hS : va_S A0 H0 H locs) (hA : ∀ q, H0.size ≤ q → A0 q) (hD : va_D A0 wc) : ∀ q, va_A wc H.size q → A0 q := by
  intro q h
  rcases h with ⟨k, e9, hk⟩ | h
  · exact hD.2 k _ hk
  · exact hA q (Nat.le_trans hS.1 h)
/-- behind a call of a method that makes things -/
theorem z_kmN {wc w1 : va_W} {mc ms : Nat} {v : Option Value} (q : List zT3) (hr : va_Run p l e R s m args below meth c H locs cells slots mc ms (F0 m pc ls st0) rest (zQmk Z wc H.size w1 v a) (va_A wc H.size)) (hS : va_S A0 H0 H locs) (hA : ∀ q, H0.size ≤ q → A0 q) (hP : va_P Z.1 vwCl L.flatten H) (hD : va_D A0 L.flatten) (hq : zq_ok q L) (hn : (q.map (·.1)).Nodup) (hL : zq_L q L = L') (hw : (q.map (·.2.1)).flatten = wc) (hw1 : (q.map (·.2.2)).flatten = w1)
    (kk : ∀ (H1 : Heap) (locs1 : List Loc), va_P Z.1 vwCl L'.flatten H1 → va_D A0 L'.flatten → va_S A0 H0 H1 locs1 → W p l e R s m args below meth c H1 locs1 (cells + mc) (slots + ms) Q (F0 m (pc + 3) ls (v.toList ++ rest))) : W p l e R s m args below meth c H locs cells slots Q (F0 m pc ls st0) := by
  have hwA : ∀ q, va_A wc H.size q → A0 q := zkA hS hA (by rw [← hw]; exact zDq q hD hq hn)
  intro T hT X
  obtain ⟨v', st₀, t, T', Lc, h0, X', hL9, e1, e2, ⟨hv, hp, hz, hk⟩, st⟩ := hr T hT X
  cases hv
  rw [h0] at hz hk
  have hk' : ∀ q : Nat, q < H.size → ¬ zA wc q → T'.heap[q]? = H[q]? := fun q h h2 => by
    rw [e1]
    refine hk q h (fun h3 => ?_)
    rcases h3 with ⟨k, e9, hk9⟩ | h3
    · exact h2 (List.mem_map.mpr ⟨_, List.mem_of_getElem? hk9, rfl⟩)
    · exact absurd h (Nat.not_lt.mpr h3)
  obtain ⟨hP1, hD1⟩ := z_setN q hP hD hq hn hL hw hw1 hk' (by rw [e1]; exact hp)
  obtain ⟨t2, a1, b1⟩ := kk T'.heap (locs ++ Lc) hP1 hD1
    ⟨Nat.le_trans hS.1 (by rw [e1]; exact hz), fun q h1 h2 => by rw [e1, hk q (Nat.lt_of_lt_of_le h1 hS.1) (fun z => h2 (hwA q z))]; exact hS.2.1 q h1 h2, fun q hq => by
      rcases List.mem_append.mp hq with h | h
      · exact hS.2.2 q h
      · exact hwA _ (hL9 q h)⟩ T' rfl X'
  exact ⟨t2, st t2 a1, b1⟩
theorem zk_P {w' : va_W} {Lr : List va_W} (hw : L.flatten = w') (hP : va_P Z.1 vwCl (L ++ Lr).flatten H) : va_P Z.1 vwCl w' H := by
  rw [← hw]
  exact zP_mem.mpr fun q hq => zP_mem.mp hP q (by rw [List.flatten_append]; exact List.mem_append_left _ hq)
theorem z_kretI {w w' : va_W} {Lr : List va_W} {sz mc ms : Nat} {v : Int32} (hx : p.tables.exec = Jvm.exec) (hb : c.code = cc) (hr : meth.sig.returnType = some .int) (hlocks : meth.locks = false) (hw : L.flatten = w') (hP : va_P Z.1 vwCl (L ++ Lr).flatten H) (hS : va_S (va_A w sz) s.heap H locs) (h1 : cells ≤ mc) (h2 : slots ≤ ms) (hdg : decode cc pc = .ok (.ireturn, 1)) :
    W p l e R s m args below meth c H locs cells slots (MQ below (zQmk Z w sz w' (some (.int v))) args s mc ms (va_A w sz)) (F0 m pc ls [.int v]) :=
  W.widen h1 h2 (W.iret hx hb hr (fun t ht hW9 => ⟨rfl, by rw [ht]; exact zk_P hw hP, hS.F ht⟩) hS.2.2 hdg hlocks)
theorem z_kretZ {w w' : va_W} {Lr : List va_W} {sz mc ms : Nat} {v : Int32} (hx : p.tables.exec = Jvm.exec) (hb : c.code = cc) (hr : meth.sig.returnType = some .boolean) (hlocks : meth.locks = false) (hz : narrow .boolean (.int v) = .int v) (hw : L.flatten = w') (hP : va_P Z.1 vwCl (L ++ Lr).flatten H) (hS : va_S (va_A w sz) s.heap H locs) (h1 : cells ≤ mc) (h2 : slots ≤ ms) (hdg : decode cc pc = .ok (.ireturn, 1)) :
    W p l e R s m args below meth c H locs cells slots (MQ below (zQmk Z w sz w' (some (.int v))) args s mc ms (va_A w sz)) (F0 m pc ls [.int v]) :=
  W.widen h1 h2 (W.zret hx hb hr hz (fun t ht hW9 => ⟨rfl, by rw [ht]; exact zk_P hw hP, hS.F ht⟩) hS.2.2 hdg hlocks)
variable {y : MethodName} {bytes : ByteArray} {maxL nL n index mc ms : Nat} {ret : Option FieldType} {rm : Room} {own : String} {b : Addr} {As : List Value} {hh : List (Nat × Nat × Nat × Nat)}
theorem z_rKM {w w' : va_W} {v : Option Value} (hx : p.tables.exec = Jvm.exec) (hb : c.code = cc) (hml : c.maxLocals = nL) (hown : s.vm.findClass own = some m.cls) (hts : ∀ w ∈ zG, w.before args s = true) (hv : zSt y bytes maxL ret n) (hM : zKM l y (zw y bytes maxL ret) rm Z sa H.size As w w' v mc ms) (hrc : rm.cells = mc) (hrs : rm.slots = ms) (hR : rm.frames + 1 ≤ R.frames ∧ 8 + (maxL + 11) + rm.locals ≤ R.locals) (hl : Cond.methodLink own index y ∈ zG)
    (hK : zK Z s) (hT : zTh sa (va_A w H.size) s H) (hN : zNc s) (hP : va_P Z.1 vwCl w H) (hD : va_D A0 w)
    (hn : As.length = n) (hls : ls.size = nL) (hW : (rest.map fun v => v.category).sum ≤ 8) (hdg : decode cc pc = .ok (.invokestatic index, 3)) (hf : cells + mc ≤ R.cells ∧ slots + ms ≤ R.slots) :
    va_Run p l e R s m args below meth c H locs cells slots mc ms (F0 m pc ls (As.reverse ++ rest)) rest (zQmk Z w H.size w' v As.toArray) (va_A w H.size) :=
  va_runS (As := As) (rest := rest) ⟨hx, hb, hml, hown, hts⟩ hM ⟨callB_of n hts (z_goodC hv.2.2.1) rfl hrc hrs (hts _ hv.2.1) (hts _ hl) hv.2.2.2 hR, hts _ hv.1⟩ ⟨zPk_blind, fun U hU hW => ⟨rfl, by rw [hU], by rw [hU]; exact hP, hK.warm hW, hD.weaken (fun _ _ _ _ => trivial), by rw [hU]; exact zTh.warm hW hT, zNc.moved hW.alike hN⟩⟩ rfl hn hls rfl (lv_room hW) hdg hf
def zHt (y : MethodName) (cc : ByteArray) (maxL : Nat) (hh : List (Nat × Nat × Nat × Nat)) (n : Nat) : Prop := Cond.static y ∈ zG ∧ Cond.initialized y.cls ∈ zG ∧ Cond.codeWith y cc maxL (some .int) hh ∈ zG ∧ (y.cls ≠ "java/lang/invoke/MethodHandle" ∧ y.cls ≠ "java/lang/invoke/VarHandle" ∧ (parseMethodDescriptor y.desc).map (fun d => d.parameters.length) = some n)
theorem z_goodL (hl : Cond.methodLink own index y ∈ zG) (hv : zHt y bytes maxL hh n) : GoodIn zG (va_wsS own index y (zwL y bytes maxL hh)) := by
  intro w0 h
  unfold va_wsS at h
  rcases List.mem_append.mp h with h | h
  · simp only [List.mem_cons, List.not_mem_nil, or_false] at h
    rcases h with h | h | h <;> subst h
    · exact z_good1 hl
    · exact z_good1 hv.1
    · exact z_good1 hv.2.1
  · rcases List.mem_cons.mp h with h | h
    · subst h; exact z_good1 hv.2.2.1
    · exact z_good1 h
theorem z_rL {w w' : va_W} {v : Option Value} (hx : p.tables.exec = Jvm.exec) (hb : c.code = cc) (hml : c.maxLocals = nL) (hown : s.vm.findClass own = some m.cls) (hts : ∀ w ∈ zG, w.before args s = true) (hv : zHt y bytes maxL hh n) (hM : zLM l y (zwL y bytes maxL hh) rm Z sa As w w' v) (hrc : rm.cells = 1) (hrs : rm.slots = 6) (hR : rm.frames + 1 ≤ R.frames ∧ 8 + (maxL + 11) + rm.locals ≤ R.locals) (hl : Cond.methodLink own index y ∈ zG)
    (hK : zK Z s) (hT : zTh sa (zA w) s H) (hN : zNc s) (hP : va_P Z.1 vwCl w H) (hD : va_D A0 w)
    (hn : As.length = n) (hls : ls.size = nL) (hW : (rest.map fun v => v.category).sum ≤ 8) (hdg : decode cc pc = .ok (.invokestatic index, 3)) (hf : cells + 1 ≤ R.cells ∧ slots + 6 ≤ R.slots) :
    va_Run p l e R s m args below meth c H locs cells slots 1 6 (F0 m pc ls (As.reverse ++ rest)) rest (zQmu Z w w' v As.toArray) (zA w) :=
  vx_runSW (As := As) (rest := rest) ⟨hx, hb, hml, hown, hts⟩ hM (vx_cwSW n hts (z_goodL hl hv) rfl hrc hrs hv.2.2.2 hR) ⟨zPl_blind, fun U hU hW => ⟨rfl, by rw [hU]; exact hP, hK.warm hW, hD.weaken (fun _ _ _ _ => trivial), by rw [hU]; exact zTh.warm hW hT, zNc.moved hW.alike hN⟩⟩ rfl hn hls rfl (lv_room hW) hdg hf
theorem z_rLR {w : va_W} {v : Option Value} (hx : p.tables.exec = Jvm.exec) (hb : c.code = cc) (hml : c.maxLocals = nL) (hown : s.vm.findClass own = some m.cls) (hts : ∀ w ∈ zG, w.before args s = true) (hv : zHt y bytes maxL hh n) (hM : zLR l y (zwL y bytes maxL hh) rm Z As w v) (hrc : rm.cells = 0) (hrs : rm.slots = 0) (hR : rm.frames + 1 ≤ R.frames ∧ 8 + (maxL + 11) + rm.locals ≤ R.locals) (hl : Cond.methodLink own index y ∈ zG)
    (hK : zK Z s) (hP : va_P Z.1 vwCl w H)
    (hn : As.length = n) (hls : ls.size = nL) (hW : (rest.map fun v => v.category).sum ≤ 8) (hdg : decode cc pc = .ok (.invokestatic index, 3)) (hf : cells + 0 ≤ R.cells ∧ slots + 0 ≤ R.slots) :
    va_Run p l e R s m args below meth c H locs cells slots 0 0 (F0 m pc ls (As.reverse ++ rest)) rest (zQro v As.toArray) (fun _ => False) :=
  vx_runSW (As := As) (rest := rest) ⟨hx, hb, hml, hown, hts⟩ hM (vx_cwSW n hts (z_goodL hl hv) rfl hrc hrs hv.2.2.2 hR) ⟨zPro_blind, fun U hU hW => z_prec hK hP U hU hW⟩ rfl hn hls rfl (lv_room hW) hdg hf
theorem z_lretR {v : Int32} (hx : p.tables.exec = Jvm.exec) (hb : c.code = cc) (hr : meth.sig.returnType = some .int) (hlocks : meth.locks = false) (hS : va_S (fun _ => False) s.heap H locs) (hdg : decode cc pc = .ok (.ireturn, 1)) :
    W p l e R s m args below meth c H locs 0 0 (vx_MQ below (zQro (some (.int v))) (fun _ _ _ => False) args s 0 0 (fun _ => False)) (F0 m pc ls [.int v]) :=
  vx_ret (W.iret hx hb hr (fun t ht hW => zq_ro (hS.F ht)) hS.2.2 hdg hlocks)
end ZN
def kcode (t : List (Nat × Int32)) : Int32 ⊕ Nat → Option Int32
  | .inl v => some v
  | .inr n => t.lookup n
