-- a method that may draw: its answer is alike to a number
def zMD (l : Launch) (y : MethodName) (ws : List Cond) (rm : Room) (Z : zZ) (av : List Value) (w w' : va_W) (x : UInt64) : Prop := MetD lw_cs l y ws rm (zPmu Z w av) (va_Qd (fun (r : UInt64) (_ : Unit) => alike64 r x = true) (fun _ t => va_P Z.1 vwCl w' t.heap) (zA w)) 0 0 (zA w)
theorem alike_rfl (x : UInt64) : alike64 x x = true := by simp [alike64]
theorem zMD_of {l : Launch} {y : MethodName} {cc : ByteArray} {maxL : Nat} {ret : Option FieldType} {rm : Room} {Z : zZ} {av : List Value} {w w' : va_W} {x : UInt64} (hy : plainName y.cls = true) (hn : (lg_sl av).length ≤ maxL)
    (body : ∀ (p : Program) (e : Env) (s0 s : State) (m : MethodId) (below : List Frame) (meth : Method) (c : Code), s = s0.setDrawn s0.drawn → p.tables.exec = Jvm.exec → c.code = cc → meth.sig.returnType = ret → c.maxLocals = maxL → s.vm.findClass y.cls = some m.cls → (∀ w ∈ zG, w.before av.toArray s = true) → meth.locks = false → zK Z s →
      ∀ A, A = zA w → ∀ Q, Q = MQD lw_cs below (va_Qd (fun (r : UInt64) (_ : Unit) => alike64 r x = true) (fun _ t => va_P Z.1 vwCl w' t.heap) (zA w)) av.toArray s0 0 0 A → ∀ ls, lv_has ls maxL (lv_args 0 av) → va_P Z.1 vwCl w s.heap → va_D A w → va_S A s.heap s.heap [] → W p l e rm s m av.toArray below meth c s.heap [] 0 0 Q (F0 m 0 ls [])) : zMD l y (zw y cc maxL ret) rm Z av w w' x := by
  refine MetD.ofW (cc := cc) (maxL := maxL) (ret := ret) hy rfl ?_
  intro p e s m args below meth c s₁ B hml hv hd0
  obtain ⟨rfl, hP, hK, hD⟩ := hv
  have hts := atoms_spec (ws := zw y cc maxL ret) B.pre
  have hl := lv_entry av (n := maxL) hn
  rw [lg_entry_eq]
  exact body p e s (s.setDrawn s.drawn) m below meth c rfl B.exec B.bytes B.returns hml (findClass_of_methodNamed B.named) (dr_words (fun w h => hts w (List.mem_cons_of_mem _ h)) _) B.notSynchronized (zK.same (u := s) rfl hK) _ rfl _ rfl _ hl hP (zD_self hD) va_S.rf
