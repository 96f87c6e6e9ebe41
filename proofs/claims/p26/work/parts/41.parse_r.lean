-- a method that writes in its world and makes things that it leaves behind
def zQmk (Z : zZ) (w : va_W) (sz : Nat) (w' : va_W) (v : Option Value) : Array Value → State → Outcome → State → Prop := fun _ st oc t => oc = .returned v ∧ va_P Z.1 vwCl w' t.heap ∧ va_F (va_A w sz) st t
def zMK (l : Launch) (y : MethodName) (ws : List Cond) (rm : Room) (Z : zZ) (sz : Nat) (av : List Value) (w w' : va_W) (v : Option Value) (mc ms : Nat) : Prop := Met l y ws rm (zPin Z w sz av) (zQmk Z w sz w' v) mc ms (va_A w sz)
theorem zMK_of {l : Launch} {y : MethodName} {cc : ByteArray} {maxL : Nat} {ret : Option FieldType} {rm : Room} {Z : zZ} {sz : Nat} {av : List Value} {w w' : va_W} {v : Option Value} {mc ms : Nat} (hy : plainName y.cls = true) (hn : (lg_sl av).length ≤ maxL)
    (body : ∀ (p : Program) (e : Env) (s : State) (m : MethodId) (below : List Frame) (meth : Method) (c : Code), p.tables.exec = Jvm.exec → c.code = cc → meth.sig.returnType = ret → c.maxLocals = maxL → s.vm.findClass y.cls = some m.cls → (∀ w ∈ zG, w.before av.toArray s = true) → meth.locks = false → zK Z s → va_AO RX5 s →
      ∀ A, A = va_A w sz → (∀ q, s.heap.size ≤ q → A q) → ∀ Q, Q = MQ below (zQmk Z w sz w' v) av.toArray s mc ms A → ∀ ls, lv_has ls maxL (lv_args 0 av) → va_P Z.1 vwCl w s.heap → va_D A w → va_S A s.heap s.heap [] → W p l e rm s m av.toArray below meth c s.heap [] 0 0 Q (F0 m 0 ls [])) : zMK l y (zw y cc maxL ret) rm Z sz av w w' v mc ms := by
  refine Met.ofW (cc := cc) (maxL := maxL) (ret := ret) hy rfl ?_
  intro p e s m args below meth c s₁ B hml hv
  obtain ⟨rfl, hsz, hP, hK, hD, hO⟩ := hv
  have hts := atoms_spec (ws := zw y cc maxL ret) B.pre
  have hl := lv_entry av (n := maxL) hn
  rw [lg_entry_eq]
  exact body p e s m below meth c B.exec B.bytes B.returns hml (findClass_of_methodNamed B.named) (fun w h => hts w (List.mem_cons_of_mem _ h)) B.notSynchronized hK hO _ rfl (fun q h => Or.inr (by rw [← hsz]; exact h)) _ rfl _ hl hP hD.self va_S.rf
theorem z_mkret {p : Program} {l : Launch} {e : Env} {R : Room} {s : State} {m : MethodId} {args : Array Value} {below : List Frame} {meth : Method} {c : Code} {H : Heap} {locs : List Loc} {cells slots : Nat} {cc : ByteArray} {pc : Nat} {ls : Array Slot} {Z : zZ} {L : List va_W} {w wr w' : va_W} {sz mc ms : Nat} {v : Int32} (hx : p.tables.exec = Jvm.exec) (hb : c.code = cc) (hr : meth.sig.returnType = some .int) (hlocks : meth.locks = false) (hw : L.flatten = w') (hP : va_P Z.1 vwCl (L ++ [wr]).flatten H) (hS : va_S (va_A w sz) s.heap H locs) (h1 : cells ≤ mc) (h2 : slots ≤ ms) (hdg : decode cc pc = .ok (.ireturn, 1)) :
    W p l e R s m args below meth c H locs cells slots (MQ below (zQmk Z w sz w' (some (.int v))) args s mc ms (va_A w sz)) (F0 m pc ls [.int v]) := by
  have hP9 : va_P Z.1 vwCl w' H := by
    rw [← hw]
    exact zP_mem.mpr fun q hq => zP_mem.mp hP q (by rw [List.flatten_append]; exact List.mem_append_left _ hq)
  exact W.widen h1 h2 (W.iret hx hb hr (fun t ht hW9 => ⟨rfl, by rw [ht]; exact hP9, hS.F ht⟩) hS.2.2 hdg hlocks)
