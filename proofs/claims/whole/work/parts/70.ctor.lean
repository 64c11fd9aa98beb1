/-! Constructors: what holds in their frames, a step that makes an array and keeps it in a field, one that sets a field. -/
def zKx (p : Program) (s : State) (m : MethodId) (args : Array Value) (meth : Method) (c : Code) (cc : ByteArray) (own : String) (D : va_G) (dA : Nat → ClassId) (A : Nat → Prop) : Prop :=
  p.tables.exec = Jvm.exec ∧ c.code = cc ∧ (∀ w ∈ zTB, w.before args s = true) ∧ s.vm.findClass own = some m.cls ∧ va_K D vwCl (zTys dA) s ∧ meth.name = "<init>" ∧ (∀ q, s.heap.size ≤ q → A q)
def zKw (D : va_G) (A : Nat → Prop) (H0 H : Heap) (locs : List Loc) (ws : va_W) : Prop := va_P D vwCl ws H ∧ va_D A ws ∧ va_S A H0 H locs
/-- a number is pushed -/
def zPu (cc : ByteArray) (pc len : Nat) (v : Int32) : Prop := (∃ z : Int, decode cc pc = .ok (.iconst z, 1) ∧ Int32.ofInt z = v ∧ len = 1) ∨ (∃ z : Int, decode cc pc = .ok (.bipush z, 2) ∧ (Int8.ofInt z).toInt32 = v ∧ len = 2) ∨ (∃ z : Int, decode cc pc = .ok (.sipush z, 3) ∧ (Int16.ofInt z).toInt32 = v ∧ len = 3)
section ZCT
variable {p : Program} {l : Launch} {e : Env} {R : Room} {s : State} {m : MethodId} {args : Array Value} {below : List Frame} {meth : Method} {c : Code} {H : Heap} {locs : List Loc} {cells slots : Nat} {Q : State → Prop}
variable {cc : ByteArray} {pc : Nat} {ls : Array Slot} {rest : List Value} {D : va_G} {A : Nat → Prop} {dA : Nat → ClassId} {ws : va_W} {own : String}
theorem zk_pu (hx : p.tables.exec = Jvm.exec) (hb : c.code = cc) {len : Nat} {v : Int32} (h : zPu cc pc len v) (kk : W p l e R s m args below meth c H locs cells slots Q (F0 m (pc + len) ls (.int v :: rest))) : W p l e R s m args below meth c H locs cells slots Q (F0 m pc ls rest) := by
  rcases h with ⟨z, h1, h2, rfl⟩ | ⟨z, h1, h2, rfl⟩ | ⟨z, h1, h2, rfl⟩
  · exact lv_iconst hx hb h1 h2 kk
  · exact lv_bipush hx hb h1 h2 kk
  · exact lv_sipush hx hb h1 h2 kk
theorem zk_na (hC : zKx p s m args meth c cc own D dA A) (hw : zKw D A s.heap H locs ws) {atype : ArrayType} {ty : FieldType} (hty : newarray.typeOf atype = ty) (harr : Cond.arrayClass ty ∈ zTB) (t : Nat) (ht : (zTys dA)[t]? = some (dA t, ty)) (hra : ∀ k, va_RA s k ty → s.vm.findClass ("[" ++ ty.toString) = some k)
    {n : Int32} {N' : Nat} {a0 : vp_A} (ha : ∀ cA : ClassId, vp_cell cA a0 = arrV cA N' (fun _ => defaultValue ty)) (hn : ¬ n < 0) (hN : n.toNatClampNeg = N') (hbytes : N' * componentBytes ty ≤ 536870912) (hcells : cells + 1 ≤ R.cells) (hslots : slots + N' ≤ R.slots) (hdg : decode cc pc = .ok (.newarray atype, 2))
    (kk : ∀ (q : Nat) (H1 : Heap), zKw D A s.heap H1 locs (ws ++ [(q, .inl (dA t, a0))]) → W p l e R s m args below meth c H1 locs (cells + 1) (slots + N') Q (F0 m (pc + 2) ls (.ref q :: rest))) : W p l e R s m args below meth c H locs cells slots Q (F0 m pc ls (.int n :: rest)) := by
  obtain ⟨hx, hb, hts, hown, hK, hin, hA⟩ := hC
  obtain ⟨hP, hD, hS⟩ := hw
  refine va_newa hx hb (by rw [hty]; exact hts _ harr) hty hK hP hD hS hA ha hn hN hbytes hcells hslots hdg (fun q cA H1 hK1 hP1 hD1 hS1 => ?_)
  have e : cA = dA t := by
    have h1 := hra _ (hK1.2 5 (cA, ty) rfl).2
    have h2 := hra _ (hK.2 t _ ht).2
    exact Option.some.inj (h1.symm.trans h2)
  rw [e] at hP1 hD1
  exact kk q H1 ⟨hP1, hD1, hS1⟩
/-- a field of this object gets what is on the stack: a final one -/
theorem zk_pf (hC : zKx p s m args meth c cc own D dA A) {h0 ci : Nat} {fs : List Value} {rs : va_W} (hw : zKw D A s.heap H locs ((h0, .inr (ci, fs)) :: rs)) {T : u_T} {N : Nat} (hc : vwCl[ci]? = some (own, T, N)) (hin : ∀ w ∈ u_ws own T N, w ∈ zTB) (ty0 : Nat → FieldType) (hty : ∀ k, k < N → parseFieldDescriptor (T k).2.2.1 = some (ty0 k)) (hnm : ∀ a, a < N → ∀ b, b < N → a ≠ b → (T a).2.1 ≠ (T b).2.1) (k : Nat) (hk : k < N) {idx : Nat} (hm : Cond.fieldLink own idx (T k).1 (T k).2.1 (T k).2.2.1 ∈ zTB) (hdecl : (T k).1 = own) {ty : FieldType} {v : Value} (hd : parseFieldDescriptor (T k).2.2.1 = some ty) (hn : narrow ty v = v) (hfit : fits ty v = true) (hl : k < fs.length) (hdg : decode cc pc = .ok (.putfield idx, 3))
    (kk : ∀ (H1 : Heap) (locs1 : List Loc), zKw D A s.heap H1 locs1 ((h0, .inr (ci, fs.set k v)) :: rs) → W p l e R s m args below meth c H1 locs1 cells slots Q (F0 m (pc + 3) ls rest)) : W p l e R s m args below meth c H locs cells slots Q (F0 m pc ls (v :: .ref h0 :: rest)) := by
  obtain ⟨hx, hb, hts, hown, hK, hin2, hA⟩ := hC
  obtain ⟨hP, hD, hS⟩ := hw
  by_cases hf : (T k).2.2.2 = true
  · exact va_putF (own := own) (ref := (T k).1) hx hb hts hin ty0 hty hnm hown hK hP hD hS 0 rfl hc k hk (hts _ hm) (fun _ h => h) hf hin2 hdecl hd hn hfit hl hdg (fun H1 locs1 a b c => kk H1 locs1 ⟨a, b, c⟩)
  · exact va_put (own := own) (ref := (T k).1) hx hb hts hin ty0 hty hnm hown hK hP hD hS 0 rfl hc k hk (hts _ hm) (fun _ h => h) (by simpa using hf) hd hn hfit hl hdg (fun H1 locs1 a b c => kk H1 locs1 ⟨a, b, c⟩)
/-- an array of ints, longs or booleans, kept in a field -/
theorem zk_af (hC : zKx p s m args meth c cc own D dA A) {h0 ci : Nat} {fs : List Value} {rs : va_W} (hw : zKw D A s.heap H locs ((h0, .inr (ci, fs)) :: rs)) (hl0 : ls[0]? = some (.val (.ref h0))) (pc pc2 : Nat) {len : Nat} {n : Int32} (d0 : decode cc pc = .ok (.aload_n 0, 1)) (d1 : zPu cc (pc + 1) len n) (hpc : pc + 1 + len = pc2)
    {atype : ArrayType} {ty : FieldType} (hty : newarray.typeOf atype = ty) (harr : Cond.arrayClass ty ∈ zTB) (t : Nat) (ht : (zTys dA)[t]? = some (dA t, ty)) (hra : ∀ k, va_RA s k ty → s.vm.findClass ("[" ++ ty.toString) = some k) {N' : Nat} {a0 : vp_A} (ha : ∀ cA : ClassId, vp_cell cA a0 = arrV cA N' (fun _ => defaultValue ty)) (hn : ¬ n < 0) (hN : n.toNatClampNeg = N') (hbytes : N' * componentBytes ty ≤ 536870912) (hcells : cells + 1 ≤ R.cells) (hslots : slots + N' ≤ R.slots) (d2 : decode cc pc2 = .ok (.newarray atype, 2))
    {T : u_T} {N : Nat} (hc : vwCl[ci]? = some (own, T, N)) (hin : ∀ w ∈ u_ws own T N, w ∈ zTB) (ty0 : Nat → FieldType) (hty0 : ∀ k, k < N → parseFieldDescriptor (T k).2.2.1 = some (ty0 k)) (hnm : ∀ a, a < N → ∀ b, b < N → a ≠ b → (T a).2.1 ≠ (T b).2.1) (k : Nat) (hk : k < N) {idx : Nat} (hm : Cond.fieldLink own idx (T k).1 (T k).2.1 (T k).2.2.1 ∈ zTB) (hdecl : (T k).1 = own) (hd : parseFieldDescriptor (T k).2.2.1 = some (.array ty)) (hl : k < fs.length) (d3 : decode cc (pc2 + 2) = .ok (.putfield idx, 3))
    (kk : ∀ (q : Nat) (H1 : Heap) (locs1 : List Loc), zKw D A s.heap H1 locs1 ((h0, .inr (ci, fs.set k (.ref q))) :: (rs ++ [(q, .inl (dA t, a0))])) → W p l e R s m args below meth c H1 locs1 (cells + 1) (slots + N') Q (F0 m (pc2 + 5) ls rest)) : W p l e R s m args below meth c H locs cells slots Q (F0 m pc ls rest) := by
  have hx := hC.1
  have hb := hC.2.1
  refine lv_aload_n hx hb d0 rfl hl0 (zk_pu hx hb d1 ?_)
  rw [hpc]
  refine zk_na hC hw hty harr t ht hra ha hn hN hbytes hcells hslots d2 (fun q H1 hw1 => ?_)
  exact zk_pf (v := .ref q) (ty := .array ty) hC (rs := rs ++ [(q, .inl (dA t, a0))]) hw1 hc hin ty0 hty0 hnm k hk hm hdecl hd rfl rfl hl d3 (fun H2 locs2 hw2 => kk q H2 locs2 hw2)
/-- a number into a field -/
theorem zk_if (hC : zKx p s m args meth c cc own D dA A) {h0 ci : Nat} {fs : List Value} {rs : va_W} (hw : zKw D A s.heap H locs ((h0, .inr (ci, fs)) :: rs)) (hl0 : ls[0]? = some (.val (.ref h0))) (pc : Nat) {v : Int32} (d0 : decode cc pc = .ok (.aload_n 0, 1)) (d1 : zPu cc (pc + 1) 1 v)
    {T : u_T} {N : Nat} (hc : vwCl[ci]? = some (own, T, N)) (hin : ∀ w ∈ u_ws own T N, w ∈ zTB) (ty0 : Nat → FieldType) (hty0 : ∀ k, k < N → parseFieldDescriptor (T k).2.2.1 = some (ty0 k)) (hnm : ∀ a, a < N → ∀ b, b < N → a ≠ b → (T a).2.1 ≠ (T b).2.1) (k : Nat) (hk : k < N) {idx : Nat} (hm : Cond.fieldLink own idx (T k).1 (T k).2.1 (T k).2.2.1 ∈ zTB) (hdecl : (T k).1 = own) {ty : FieldType} (hd : parseFieldDescriptor (T k).2.2.1 = some ty) (hn : narrow ty (.int v) = .int v) (hfit : fits ty (.int v) = true) (hl : k < fs.length) (d3 : decode cc (pc + 2) = .ok (.putfield idx, 3))
    (kk : ∀ (H1 : Heap) (locs1 : List Loc), zKw D A s.heap H1 locs1 ((h0, .inr (ci, fs.set k (.int v))) :: rs) → W p l e R s m args below meth c H1 locs1 cells slots Q (F0 m (pc + 5) ls rest)) : W p l e R s m args below meth c H locs cells slots Q (F0 m pc ls rest) := by
  have hx := hC.1
  have hb := hC.2.1
  refine lv_aload_n hx hb d0 rfl hl0 (zk_pu hx hb d1 ?_)
  exact zk_pf (v := .int v) hC hw hc hin ty0 hty0 hnm k hk hm hdecl hd hn hfit hl d3 (fun H2 locs2 hw2 => kk H2 locs2 hw2)
end ZCT
/-- before and behind a constructor -/
def zCp (D : va_G) (dA : Nat → ClassId) (h0 ci : Nat) (fs : List Value) (sz : Nat) (X : State → Prop) : Array Value → State → Prop := va_Pc [.ref h0] (fun U => U.heap.size = sz ∧ va_P D vwCl [(h0, .inr (ci, fs))] U.heap ∧ va_K D vwCl (zTys dA) U ∧ X U)
def zCA (h0 ci : Nat) (fs : List Value) (sz : Nat) : Nat → Prop := va_A [(h0, .inr (ci, fs))] sz
def zCq (D : va_G) (h0 ci : Nat) (fs : List Value) (sz : Nat) (wu : (Nat → Nat) → va_W) : Array Value → State → Outcome → State → Prop := va_Qv (fun u : Nat → Nat => u 0 = h0) (fun u t => va_P D vwCl (wu u) t.heap ∧ va_D (zCA h0 ci fs sz) (wu u)) (zCA h0 ci fs sz)
theorem zw_oc : Cond.code objectInit ⟨#[0xb1]⟩ 1 none ∈ zTB := zTB_mem 151 (by decide +kernel) rfl
theorem zw_oi : Cond.instanceMethod objectInit ∈ zTB := zTB_mem 150 (by decide +kernel) rfl
/-- a constructor's walk, behind Object's -/
theorem zk_met {l : Launch} {D : va_G} {dA : Nat → ClassId} {h0 ci sz : Nat} {fs : List Value} {X : State → Prop} {wu : (Nat → Nat) → va_W} {y : MethodName} {cc : ByteArray} {mL : Nat} (hmL : 1 ≤ mL) (fr mc ms lo : Nat) (hfr : 1 ≤ fr) (hlo : 12 ≤ lo) (hpl : plainName y.cls = true) (hy : y.name = "<init>") {idx : Nat} (hm : Cond.methodLink y.cls idx objectInit ∈ zTB) (d0 : decode cc 0 = .ok (.aload_n 0, 1)) (d1 : decode cc 1 = .ok (.invokespecial idx, 3))
    (body : ∀ (p : Program) (e : Env) (R : Room) (s : State) (m : MethodId) (below : List Frame) (meth : Method) (c : Code) (ls : Array Slot), R.frames = fr → R.cells = mc → R.slots = ms → R.locals = lo → s.heap.size = sz → zKx p s m #[.ref h0] meth c cc y.cls D dA (zCA h0 ci fs sz) → c.maxLocals = mL → X s → lv_has ls mL [(0, .ref h0)] → zKw D (zCA h0 ci fs sz) s.heap s.heap [] [(h0, .inr (ci, fs))] →
      (∀ (pc : Nat) (H : Heap) (locs : List Loc) (ls : Array Slot) (u : Nat → Nat), decode cc pc = .ok (.return_, 1) → u 0 = h0 → zKw D (zCA h0 ci fs sz) s.heap H locs (wu u) → W p l e R s m #[.ref h0] below meth c H locs mc ms (MQ below (zCq D h0 ci fs sz wu) #[.ref h0] s mc ms (zCA h0 ci fs sz)) (F0 m pc ls [])) →
      W p l e R s m #[.ref h0] below meth c s.heap [] 0 0 (MQ below (zCq D h0 ci fs sz wu) #[.ref h0] s mc ms (zCA h0 ci fs sz)) (F0 m 4 ls [])) : Met l y (zws (y, cc, mL, none)) { frames := fr, cells := mc, slots := ms, locals := lo } (zCp D dA h0 ci fs sz X) (zCq D h0 ci fs sz wu) mc ms (zCA h0 ci fs sz) := by
  refine Met.ofW (cc := cc) (maxL := mL) (ret := none) hpl rfl ?_
  intro p e s m args below meth c s₁ B hml hv
  obtain ⟨rfl, hsz, hP, hK, hX⟩ := hv
  have hx := B.exec
  have hb := B.bytes
  have hr := B.returns
  have hts0 := atoms_spec (ws := zws (y, cc, mL, none)) B.pre
  have hts : ∀ w ∈ zTB, w.before #[.ref h0] s = true := fun w hw => hts0 w (List.mem_cons_of_mem _ hw)
  have hown : s.vm.findClass y.cls = some m.cls := findClass_of_methodNamed B.named
  have hlocks := B.notSynchronized
  have hin : meth.name = "<init>" := (name_of_methodNamed B.named B.method).1.trans hy
  have hD : va_D (zCA h0 ci fs sz) [(h0, .inr (ci, fs))] := by
    refine ⟨fun i j a b hi hj _ => ?_, fun k q hk => va_A.in hk⟩
    have h1 := (List.getElem?_eq_some_iff.mp hi).1
    have h2 := (List.getElem?_eq_some_iff.mp hj).1
    simp only [List.length_singleton] at h1 h2
    omega
  have hl := lv_entry ([.ref h0]) (n := mL) hmL
  rw [lg_entry_eq]
  show W p l e _ s m #[.ref h0] below meth c s.heap [] 0 0 _ (F0 m 0 ((lg_sl ([.ref h0]) ++ List.replicate (mL - (lg_sl ([.ref h0])).length) Slot.unset).toArray) [])
  generalize (lg_sl ([.ref h0]) ++ List.replicate (mL - (lg_sl ([.ref h0])).length) Slot.unset).toArray = ls at hl ⊢
  have hl : lv_has ls mL [(0, .ref h0)] := hl
  refine lv_aload_n hx hb d0 rfl (lv_at hl 0 rfl) ?_
  refine W.objInit hx hb hown (hts _ hm) (hts _ zw_oi) (hts _ zw_oc) rfl (by rw [hml]; exact hl.1) rfl d1 hfr hlo ?_
  refine W.eq (g2 := F0 m 4 ls []) rfl ?_
  refine body p e _ s m below meth c ls rfl rfl rfl rfl hsz ⟨hx, hb, hts, hown, hK, hin, fun q hq => Or.inr (by rw [← hsz]; exact hq)⟩ hml hX hl ⟨hP, hD, va_S.rf⟩ (fun pc H locs ls u hd hu hw => ?_)
  exact W.vret hx hb hr (fun t ht _ => ⟨⟨u, rfl, hu, by rw [ht]; exact hw.1, hw.2.1⟩, hw.2.2.F ht⟩) hw.2.2.2.2 hd hlocks
