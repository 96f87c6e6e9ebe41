-- the law's wrappers: a call of a method that may throw, its exceptions caught
def zNcL : List (String × String) := [("java/lang/IllegalArgumentException", "java/lang/IndexOutOfBoundsException"), ("java/lang/IllegalStateException", "java/lang/IndexOutOfBoundsException"), ("java/lang/IllegalStateException", "java/lang/IllegalArgumentException")]
def zNc (U : State) : Prop := ∀ q ∈ zNcL, va_Nc q.1 q.2 U
theorem zNc.moved {u U : State} (hvm : u.vm.Alike U.vm) (h : zNc u) : zNc U := fun q hq => va_Nc.moved hvm (h q hq)
def zwL (y : MethodName) (cc : ByteArray) (maxL : Nat) (hh : List (Nat × Nat × Nat × Nat)) : List Cond := Cond.codeWith y cc maxL (some .int) hh :: zG
def zPl (Z : zZ) (sa : Nat → Nat) (w : va_W) (av : List Value) : Array Value → State → Prop := va_Pc av (fun U => va_P Z.1 vwCl w U.heap ∧ zK Z U ∧ va_D (fun _ => True) w ∧ zTh sa (zA w) U U.heap ∧ zNc U)
def zLM (l : Launch) (y : MethodName) (ws : List Cond) (rm : Room) (Z : zZ) (sa : Nat → Nat) (av : List Value) (w w' : va_W) (v : Option Value) : Prop := Met l y ws rm (zPl Z sa w av) (zQmu Z w w' v) 1 6 (zA w)
theorem zPl_blind {Z : zZ} {sa : Nat → Nat} {w : va_W} {av : List Value} : FrameBlind (zPl Z sa w av) := fun a U g mk h => ⟨h.1, h.2.1, h.2.2.1.same rfl, h.2.2.2.1, zTh.same (u := U) (H := U.heap) rfl h.2.2.2.2.1, zNc.moved (u := U) (Vm.Alike.refl U.vm) h.2.2.2.2.2⟩
theorem met_of_vx {l : Launch} {y : MethodName} {ws : List Cond} {rm : Room} {Pc : Array Value → State → Prop} {Qc : Array Value → State → Outcome → State → Prop} {mc ms : Nat} {free : Addr → Prop} (h : vx_Met l y ws rm Pc Qc (fun _ _ _ => False) mc ms free) : Met l y ws rm Pc Qc mc ms free := by
  intro p e ha hc hk s m args below hf happ hP hK
  obtain ⟨n, o, h1, h2, h3, h4⟩ := h p e ha hc hk s m args below hf happ hP hK
  refine ⟨n, o, h1, h2, h3, ?_⟩
  rcases h4 with h4 | ⟨q, -, E, ce, L, hx, -⟩
  · exact h4
  · exact hx.elim
theorem zLM_of {l : Launch} {y : MethodName} {cc : ByteArray} {maxL : Nat} {hh : List (Nat × Nat × Nat × Nat)} {rm : Room} {Z : zZ} {sa : Nat → Nat} {av : List Value} {w w' : va_W} {v : Option Value} (hy : plainName y.cls = true) (hn : (lg_sl av).length ≤ maxL)
    (body : ∀ (p : Program) (e : Env) (s : State) (m : MethodId) (below : List Frame) (meth : Method) (c : Code), p.tables.exec = Jvm.exec → c.code = cc → meth.sig.returnType = some .int → c.maxLocals = maxL → s.vm.findClass y.cls = some m.cls → (∀ w ∈ zG, w.before av.toArray s = true) → meth.locks = false → zK Z s → zTh sa (zA w) s s.heap → zNc s → c.exceptionTable.toList = tableOf hh →
      ∀ A, A = zA w → ∀ Q, Q = vx_MQ below (zQmu Z w w' v) (fun _ _ _ => False) av.toArray s 1 6 A → ∀ ls, lv_has ls maxL (lv_args 0 av) → va_P Z.1 vwCl w s.heap → va_D A w → va_S A s.heap s.heap [] → W p l e rm s m av.toArray below meth c s.heap [] 0 0 Q (F0 m 0 ls [])) : zLM l y (zwL y cc maxL hh) rm Z sa av w w' v := by
  refine met_of_vx (vx_ofWH (cc := cc) (maxL := maxL) (ret := some .int) (hh := hh) hy rfl ?_)
  intro p e s m args below meth c s₁ B hml hv
  obtain ⟨rfl, hP, hK, hD, hT, hN⟩ := hv
  have hts := atoms_spec (ws := zwL y cc maxL hh) B.pre
  have htab := vx_table (x := y) B (hts _ List.mem_cons_self)
  have hl := lv_entry av (n := maxL) hn
  rw [lg_entry_eq]
  exact body p e s m below meth c B.exec B.bytes B.returns hml (findClass_of_methodNamed B.named) (fun w h => hts w (List.mem_cons_of_mem _ h)) B.notSynchronized hK hT hN htab _ rfl _ rfl _ hl hP (zD_self hD) va_S.rf
def kof (t : List (Nat × Int32)) : Int32 ⊕ Nat → Option Int32
  | .inl _ => some 0
  | .inr n => t.lookup n
section ZL
variable {p : Program} {l : Launch} {e : Env} {R : Room} {s : State} {m : MethodId} {args : Array Value} {below : List Frame} {meth : Method} {c : Code} {H : Heap} {locs : List Loc} {cells slots : Nat} {Q : State → Prop}
variable {cc : ByteArray} {pc : Nat} {ls : Array Slot} {rest st0 : List Value} {a : Array Value} {A0 : Nat → Prop} {H0 : Heap} {Z : zZ} {sa : Nat → Nat}
/-- behind a call of a method that may throw -/
theorem z_xm {wc w1 : va_W} {L L' : List va_W} {r : Value ⊕ String} (hr : vx_Run p l e R s m args below meth c H locs cells slots 1 6 (F0 m pc ls st0) rest (zQx Z wc w1 r a) (zXx Z wc w1 r) (zA wc)) (hS : va_S A0 H0 H locs) (hP : va_P Z.1 vwCl L.flatten H) (hD : va_D A0 L.flatten) (i : Nat) (hi : L[i]? = some wc) (hL : L.set i w1 = L') (ha : w1.map (·.1) = wc.map (·.1))
    (kx : ∀ (E : String) (ce : Cell) (q9 : Addr) (H1 : Heap) (locs1 : List Loc), r = .inr E → va_P Z.1 vwCl L'.flatten H1 → va_D A0 L'.flatten → va_S A0 H0 H1 locs1 → H1[q9]? = some ce → ce.vm = .none → s.vm.findClass E = some ce.cls → vx_W p l e R s m args below meth c H1 locs1 (cells + 1) (slots + 6) Q (F0 m pc ls rest) q9)
    (kk : ∀ (v : Value) (H1 : Heap) (locs1 : List Loc), r = .inl v → va_P Z.1 vwCl L'.flatten H1 → va_D A0 L'.flatten → va_S A0 H0 H1 locs1 → W p l e R s m args below meth c H1 locs1 (cells + 1) (slots + 6) Q (F0 m (pc + 3) ls (v :: rest))) : W p l e R s m args below meth c H locs cells slots Q (F0 m pc ls st0) := by
  have hc := z_zA (zD_one hD i wc hi)
  have key : ∀ (st₀ t T' : State) (Lc : List Loc), st₀.heap = H → (∀ q ∈ Lc, zA wc q.base) → T'.heap = t.heap → va_P Z.1 vwCl w1 t.heap → va_F (zA wc) st₀ t → va_P Z.1 vwCl L'.flatten T'.heap ∧ va_D A0 L'.flatten ∧ va_S A0 H0 T'.heap (locs ++ Lc) := by
    intro st₀ t T' Lc h0 hL9 e1 hp hF
    obtain ⟨hz, hk⟩ := hF
    rw [h0] at hz hk
    have hk' : ∀ q : Nat, q < H.size → ¬ zA wc q → T'.heap[q]? = H[q]? := fun q h h2 => by rw [e1]; exact hk q h h2
    obtain ⟨hP1, hD1⟩ := z_set1 hP hD i hi hL ha hk' (by rw [e1]; exact hp)
    exact ⟨hP1, hD1, Nat.le_trans hS.1 (by rw [e1]; exact hz), fun q h1 h2 => by rw [hk' q (Nat.lt_of_lt_of_le h1 hS.1) (fun z => h2 (hc q z))]; exact hS.2.1 q h1 h2, fun q hq => by
      rcases List.mem_append.mp hq with h | h
      · exact hS.2.2 q h
      · exact hc _ (hL9 q h)⟩
  intro T hT X
  rcases hr T hT X with ⟨v, st₀, t, T', Lc, h0, X', hL9, e1, e2, ⟨⟨v', hv1, hv2⟩, hp, hF⟩, st⟩ | ⟨q, st₀, t, T', Lc, E, ce, h0, X', hL9, e1, e2, ⟨hE, hp, hF⟩, hce, hcv, hcl, st⟩
  · cases hv2
    obtain ⟨k1, k2, k3⟩ := key st₀ t T' Lc h0 hL9 e1 hp hF
    obtain ⟨t2, a1, b1⟩ := kk v' T'.heap (locs ++ Lc) hv1 k1 k2 k3 T' rfl X'
    exact ⟨t2, st t2 a1, b1⟩
  · obtain ⟨k1, k2, k3⟩ := key st₀ t T' Lc h0 hL9 e1 hp hF
    obtain ⟨t2, a1, b1⟩ := kx E ce q T'.heap (locs ++ Lc) hE k1 k2 k3 (by rw [e1]; exact hce) hcv hcl T' rfl X'
    exact ⟨t2, st.trans a1, b1⟩
theorem z_lret {w w' : va_W} {v : Int32} (hx : p.tables.exec = Jvm.exec) (hb : c.code = cc) (hr : meth.sig.returnType = some .int) (hlocks : meth.locks = false) (hP : va_P Z.1 vwCl w' H) (hS : va_S (zA w) s.heap H locs) (h1 : cells ≤ 1) (h2 : slots ≤ 6) (hdg : decode cc pc = .ok (.ireturn, 1)) :
    W p l e R s m args below meth c H locs cells slots (vx_MQ below (zQmu Z w w' (some (.int v))) (fun _ _ _ => False) args s 1 6 (zA w)) (F0 m pc ls [.int v]) :=
  vx_ret (W.widen h1 h2 (W.iret hx hb hr (fun t ht hW => zq_mu (by rw [ht]; exact hP) (hS.F ht)) hS.2.2 hdg hlocks))
variable {y : MethodName} {bytes : ByteArray} {maxL nL n index : Nat} {ret : Option FieldType} {rm : Room} {own : String} {b : Addr} {As : List Value} {hh : List (Nat × Nat × Nat × Nat)}
theorem z_rX {w w' : va_W} {r : Value ⊕ String} (hx : p.tables.exec = Jvm.exec) (hb : c.code = cc) (hml : c.maxLocals = nL) (hown : s.vm.findClass own = some m.cls) (hts : ∀ w ∈ zG, w.before args s = true) (hv : zVt y bytes maxL ret n) (hM : zXM l y (zw y bytes maxL ret) rm Z sa (.ref b :: As) w w' r) (hrc : rm.cells = 1) (hrs : rm.slots = 6) (hR : rm.frames + 1 ≤ R.frames ∧ 8 + (maxL + 11) + rm.locals ≤ R.locals) (hl : Cond.methodLink own index y ∈ zG)
    (hK : zK Z s) (hT : zTh sa (zA w) s H) (hP : va_P Z.1 vwCl w H) (hD : va_D A0 w) (hrv : ∃ cellB : Cell, H[b]? = some cellB ∧ cellB.vm.isStatics = false ∧ s.vm.findClass y.cls = some cellB.cls)
    (hn : As.length = n) (hls : ls.size = nL) (hW : (rest.map fun v => v.category).sum ≤ 8) (hdg : decode cc pc = .ok (.invokevirtual index, 3)) (hf : cells + 1 ≤ R.cells ∧ slots + 6 ≤ R.slots) :
    vx_Run p l e R s m args below meth c H locs cells slots 1 6 (F0 m pc ls (As.reverse ++ .ref b :: rest)) rest (zQx Z w w' r (Value.ref b :: As).toArray) (zXx Z w w' r) (zA w) :=
  vx_runV (C := y.cls) (As := As) (rest := rest) ⟨hx, hb, hml, hown, hts⟩ hM (cwV n hts (z_goodV hl hv) rfl hrc hrs ⟨rfl, hv.2.2.2.2⟩ hR) ⟨zPx_blind, hrv, fun U hU hW => ⟨rfl, by rw [hU]; exact hP, hK.warm hW, hD.weaken (fun _ _ _ _ => trivial), by rw [hU]; exact zTh.warm hW hT⟩⟩ rfl hn hls rfl (lv_room hW) hdg hf
end ZL
