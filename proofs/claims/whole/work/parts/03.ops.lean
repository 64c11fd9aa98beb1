/-! The operations, and that each does what its instruction does -/
def zTys (dA : Nat → ClassId) : List (ClassId × FieldType) := [(dA 0, .int), (dA 1, .long), (dA 2, .boolean), (dA 3, .object "StampSheets$Row"), (dA 4, .object "StampSheets$Sheet")]
def zAd (ad : Nat → Nat) (A : Nat → Prop) : Prop := (∀ i j, i < 83 → j < 83 → ad i = ad j → i = j) ∧ ∀ i, i < 83 → A (ad i)
def zS1 (ad : Nat → Nat) (A : Nat → Prop) (U : State) (H : Heap) (k : Nat) (C n : String) (xs : List Int32) : Prop := va_Z C n "[I" (.ref (ad k)) A U H ∧ va_T .int (ad k) xs.length (fun j => .int (xs.getD j 0)) A U H
def zWITHOUT : List Int32 := [1431655765, 858993459, 252645135, 16711935, 65535]
def zABOVE : List Int32 := [0, 0, 1, 1, 0, 4]
def zSIZEB : List Int32 := [10, 11, 12, 0, 13, 14]
def zMARKB : List Int32 := [20, 21, 24, 22, 23, 0]
def zSt (ad : Nat → Nat) (A : Nat → Prop) (U : State) (H : Heap) : Prop := zS1 ad A U H 1001 "StampSheets$Finder" "WITHOUT" zWITHOUT ∧ zS1 ad A U H 1002 "StampSheets$Asks" "ABOVE" zABOVE ∧ zS1 ad A U H 1003 "StampSheets$Asks" "SIZE_BODIES" zSIZEB ∧ zS1 ad A U H 1004 "StampSheets$Asks" "MARK_BODIES" zMARKB
theorem zS1.moved {ad : Nat → Nat} {A : Nat → Prop} {u U : State} {H H1 : Heap} {k : Nat} {C n : String} {xs : List Int32} (h : zS1 ad A u H k C n xs) (hvm : u.vm.Alike U.vm) (hq : ∀ a : Nat, a < H.size → ¬ A a → H1[a]? = H[a]?) : zS1 ad A U H1 k C n xs := ⟨(h.1.moved hvm).kept hq, (h.2.moved hvm).kept hq⟩
theorem zSt.moved {ad : Nat → Nat} {A : Nat → Prop} {u U : State} {H H1 : Heap} (h : zSt ad A u H) (hvm : u.vm.Alike U.vm) (hq : ∀ a : Nat, a < H.size → ¬ A a → H1[a]? = H[a]?) : zSt ad A U H1 := ⟨h.1.moved hvm hq, h.2.1.moved hvm hq, h.2.2.1.moved hvm hq, h.2.2.2.moved hvm hq⟩
/-- what holds in a method's frame -/
def zCx (p : Program) (R : Room) (s : State) (m : MethodId) (args : Array Value) (c : Code) (cc : ByteArray) (own : String) (nL : Nat) (D : va_G) (dA : Nat → ClassId) (ad : Nat → Nat) (A : Nat → Prop) (d cells slots : Nat) : Prop :=
  p.tables.exec = Jvm.exec ∧ c.code = cc ∧ c.maxLocals = nL ∧ s.vm.findClass own = some m.cls ∧ (∀ w ∈ zTB, w.before args s = true) ∧ (∀ w ∈ zNL, va_Nw w s) ∧ va_K D vwCl (zTys dA) s ∧ zAd ad A ∧ zSt ad A s s.heap ∧ (d + 1 ≤ R.frames ∧ 64 * (d + 1) ≤ R.locals ∧ cells ≤ R.cells ∧ slots ≤ R.slots)
def zV (p : Program) (l : Launch) (e : Env) (R : Room) (s : State) (m : MethodId) (args : Array Value) (below : List Frame) (meth : Method) (c : Code) (nL : Nat) (D : va_G) (dA : Nat → ClassId) (ad : Nat → Nat) (A : Nat → Prop) (cells slots : Nat) (Q : State → Prop) (pc : Nat) (lo : ZL) (st : List Value) (M : ZM) : Prop :=
  ∀ (H : Heap) (locs : List Loc) (ls : Array Slot), va_P D vwCl (zwd dA ad M) H → va_S A s.heap H locs → zLH ad ls nL lo → lo.length = nL → W p l e R s m args below meth c H locs cells slots Q (F0 m pc ls (st.map (ztr ad)))
/-- how a method is left: 0 nothing, 1 an int, 2 a long, 3 a boolean -/
def zRT (rk : Nat) (v : Option Value) (cc : ByteArray) (pc : Nat) : Prop :=
  (rk = 0 ∧ v = none ∧ decode cc pc = .ok (.return_, 1)) ∨ (rk = 1 ∧ (∃ x, v = some (.int x)) ∧ decode cc pc = .ok (.ireturn, 1)) ∨ (rk = 2 ∧ (∃ x, v = some (.long x)) ∧ decode cc pc = .ok (.lreturn, 1)) ∨ (rk = 3 ∧ (∃ x, v = some (.int x) ∧ zb01 x = true) ∧ decode cc pc = .ok (.ireturn, 1))
def zRr (p : Program) (l : Launch) (e : Env) (R : Room) (s : State) (m : MethodId) (args : Array Value) (below : List Frame) (meth : Method) (c : Code) (D : va_G) (dA : Nat → ClassId) (ad : Nat → Nat) (A : Nat → Prop) (cells slots : Nat) (Q : State → Prop) (rk : Nat) (cc : ByteArray) (r : ZR) : Prop :=
  ∀ (pc : Nat) (H : Heap) (locs : List Loc) (ls : Array Slot), va_P D vwCl (zwd dA ad r.2) H → va_S A s.heap H locs → zRT rk r.1 cc pc → W p l e R s m args below meth c H locs cells slots Q (F0 m pc ls (r.1.toList.map (ztr ad)))
def zRep (D : va_G) (dA : Nat → ClassId) (ad : Nat → Nat) (A : Nat → Prop) (M : ZM) (U : State) : Prop := va_P D vwCl (zwd dA ad M) U.heap ∧ va_K D vwCl (zTys dA) U ∧ (∀ w ∈ zNL, va_Nw w U) ∧ zSt ad A U U.heap
def zrm (d : Nat) : Room := { frames := d, cells := 0, slots := 0, locals := 64 * d }
abbrev ZT : Type := MethodName × ByteArray × Nat × Option FieldType
def zws (q : ZT) : List Cond := .code q.1 q.2.1 q.2.2.1 q.2.2.2 :: zTB
def zPc (D : va_G) (dA : Nat → ClassId) (ad : Nat → Nat) (A : Nat → Prop) (as : List Value) (M : ZM) : Array Value → State → Prop := va_Pc (as.map (ztr ad)) (zRep D dA ad A M)
def zQi (D : va_G) (dA : Nat → ClassId) (ad : Nat → Nat) (A : Nat → Prop) (r : Int32) (M' : ZM) : Array Value → State → Outcome → State → Prop := va_Qi (fun x (_ : Unit) => x = r) (fun _ t => va_P D vwCl (zwd dA ad M') t.heap) A
def zQl (D : va_G) (dA : Nat → ClassId) (ad : Nat → Nat) (A : Nat → Prop) (r : Int64) (M' : ZM) : Array Value → State → Outcome → State → Prop := va_Ql (fun x (_ : Unit) => x = r) (fun _ t => va_P D vwCl (zwd dA ad M') t.heap) A
def zQv (D : va_G) (dA : Nat → ClassId) (ad : Nat → Nat) (A : Nat → Prop) (M' : ZM) : Array Value → State → Outcome → State → Prop := va_Qv (fun (_ : Unit) => True) (fun _ t => va_P D vwCl (zwd dA ad M') t.heap) A
/-- the callees: what the table of methods answers is what the machine does, in a room of depth d -/
def zES (mt : Nat → Option ZT) (l : Launch) (D : va_G) (dA : Nat → ClassId) (ad : Nat → Nat) (A : Nat → Prop) (d : Nat) (E : ZE) : Prop :=
  ∀ (y : Nat) (q : ZT), mt y = some q → ∀ (as : List Value) (M : ZM),
    (∀ r M', E.1 y as M = some (r, M') → Met l q.1 (zws q) (zrm d) (zPc D dA ad A as M) (zQi D dA ad A r M') 0 0 A) ∧
    (∀ r M', E.2.1 y as M = some (r, M') → Met l q.1 (zws q) (zrm d) (zPc D dA ad A as M) (zQl D dA ad A r M') 0 0 A) ∧
    (∀ M', E.2.2 y as M = some M' → Met l q.1 (zws q) (zrm d) (zPc D dA ad A as M) (zQv D dA ad A M') 0 0 A)
/-- an operation is right at a place of a code -/
def ZOK (mt : Nat → Option ZT) (cc : ByteArray) (own : String) (rk pc : Nat) (op : ZP) : Prop :=
  ∀ (p : Program) (l : Launch) (e : Env) (R : Room) (s : State) (m : MethodId) (args : Array Value) (below : List Frame) (meth : Method) (c : Code) (nL : Nat) (D : va_G) (dA : Nat → ClassId) (ad : Nat → Nat) (A : Nat → Prop) (cells slots : Nat) (Q : State → Prop) (d : Nat) (E : ZE),
    zCx p R s m args c cc own nL D dA ad A d cells slots → zES mt l D dA ad A d E → ∀ (k : ZK) (lo : ZL) (st : List Value) (M : ZM) (o : ZO), op E k lo st M = some o →
    (∀ pc' lo' st' M', k pc' lo' st' M' = some o → zV p l e R s m args below meth c nL D dA ad A cells slots Q pc' lo' st' M') → (∀ r, o = .inl r → zRr p l e R s m args below meth c D dA ad A cells slots Q rk cc r) →
    zV p l e R s m args below meth c nL D dA ad A cells slots Q pc lo st M
theorem zkl_len (lo : ZL) (i : Nat) : (zkl lo i).length = lo.length := by
  unfold zkl
  split
  · rfl
  · split
    · split
      · rw [List.length_set]
      · rfl
    · rfl
theorem zs1_len (lo : ZL) (i : Nat) (v : Value) : (zs1 lo i v).length = lo.length := by rw [zs1, List.length_set, zkl_len]
theorem zs2_len (lo : ZL) (i : Nat) (v : Value) : (zs2 lo i v).length = lo.length := by rw [zs2, List.length_set, List.length_set, zkl_len]
section ZD
variable {ad : Nat → Nat} {A : Nat → Prop} {dA : Nat → ClassId} {D : va_G}
theorem zD (h : zAd ad A) (M : ZM) : va_D A (zwd dA ad M) := by
  have key : ∀ (k : Nat) (q : Nat × va_E), (zwd dA ad M)[k]? = some q → k < 83 ∧ q.1 = ad k := by
    intro k q hk
    simp only [zwd, List.getElem?_mapIdx] at hk
    cases hy : zLay[k]? with
    | none => rw [hy] at hk; cases hk
    | some y =>
      rw [hy] at hk
      cases hk
      exact ⟨(List.getElem?_eq_some_iff.mp hy).1, rfl⟩
  refine ⟨fun i j p q hi hj he => ?_, fun k q hk => ?_⟩
  · obtain ⟨h1, h2⟩ := key i p hi
    obtain ⟨h3, h4⟩ := key j q hj
    exact h.1 i j h1 h3 (by rw [← h2, ← h4, he])
  · obtain ⟨h1, h2⟩ := key k q hk
    rw [h2]
    exact h.2 k h1
end ZD

def zo_i (v : Int32) (n : Nat) : ZP := fun E k lo st M => k n lo (.int v :: st) M
def zo_l (v : Int64) (n : Nat) : ZP := fun E k lo st M => k n lo (.long v :: st) M
theorem zk_iconst {mt : Nat → Option ZT} {cc : ByteArray} {own : String} {rk pc : Nat} {z : Int} {v : Int32} (hv : Int32.ofInt z = v) (hd : decode cc pc = .ok (.iconst z, 1)) : ZOK mt cc own rk pc (zo_i v (pc + 1)) := by
  intro p l e R s m args below meth c nL D dA ad A cells slots Q d E hC hE k lo st M o ho hk hr H locs ls hP hS hL hlen
  obtain ⟨hx, hb, hml, hown, hts, hnl, hK, hAd, hSt, hR⟩ := hC
  exact lv_iconst hx hb hd hv (hk _ _ _ _ ho H locs ls hP hS hL hlen)
theorem zk_bipush {mt : Nat → Option ZT} {cc : ByteArray} {own : String} {rk pc : Nat} {z : Int} {v : Int32} (hv : (Int8.ofInt z).toInt32 = v) (hd : decode cc pc = .ok (.bipush z, 2)) : ZOK mt cc own rk pc (zo_i v (pc + 2)) := by
  intro p l e R s m args below meth c nL D dA ad A cells slots Q d E hC hE k lo st M o ho hk hr H locs ls hP hS hL hlen
  obtain ⟨hx, hb, hml, hown, hts, hnl, hK, hAd, hSt, hR⟩ := hC
  exact lv_bipush hx hb hd hv (hk _ _ _ _ ho H locs ls hP hS hL hlen)
theorem zk_sipush {mt : Nat → Option ZT} {cc : ByteArray} {own : String} {rk pc : Nat} {z : Int} {v : Int32} (hv : (Int16.ofInt z).toInt32 = v) (hd : decode cc pc = .ok (.sipush z, 3)) : ZOK mt cc own rk pc (zo_i v (pc + 3)) := by
  intro p l e R s m args below meth c nL D dA ad A cells slots Q d E hC hE k lo st M o ho hk hr H locs ls hP hS hL hlen
  obtain ⟨hx, hb, hml, hown, hts, hnl, hK, hAd, hSt, hR⟩ := hC
  exact lv_sipush hx hb hd hv (hk _ _ _ _ ho H locs ls hP hS hL hlen)
theorem zk_lconst {mt : Nat → Option ZT} {cc : ByteArray} {own : String} {rk pc : Nat} {z : Fin 2} {v : Int64} (hv : Int64.ofNat (z : Nat) = v) (hd : decode cc pc = .ok (.lconst z, 1)) : ZOK mt cc own rk pc (zo_l v (pc + 1)) := by
  intro p l e R s m args below meth c nL D dA ad A cells slots Q d E hC hE k lo st M o ho hk hr H locs ls hP hS hL hlen
  obtain ⟨hx, hb, hml, hown, hts, hnl, hK, hAd, hSt, hR⟩ := hC
  exact lv_lconst hx hb hd hv (hk _ _ _ _ ho H locs ls hP hS hL hlen)
theorem zk_ldc {mt : Nat → Option ZT} {cc : ByteArray} {own : String} {rk pc : Nat} {i : Nat} {v : Int32} (hm : Cond.constant own i v ∈ zTB) (hd : decode cc pc = .ok (.ldc i, 2)) : ZOK mt cc own rk pc (zo_i v (pc + 2)) := by
  intro p l e R s m args below meth c nL D dA ad A cells slots Q d E hC hE k lo st M o ho hk hr H locs ls hP hS hL hlen
  obtain ⟨hx, hb, hml, hown, hts, hnl, hK, hAd, hSt, hR⟩ := hC
  exact lv_ldc hx hb hown (hts _ hm) hd (hk _ _ _ _ ho H locs ls hP hS hL hlen)
theorem zk_ldcw {mt : Nat → Option ZT} {cc : ByteArray} {own : String} {rk pc : Nat} {i : Nat} {v : Int32} (hm : Cond.constant own i v ∈ zTB) (hd : decode cc pc = .ok (.ldc_w i, 3)) : ZOK mt cc own rk pc (zo_i v (pc + 3)) := by
  intro p l e R s m args below meth c nL D dA ad A cells slots Q d E hC hE k lo st M o ho hk hr H locs ls hP hS hL hlen
  obtain ⟨hx, hb, hml, hown, hts, hnl, hK, hAd, hSt, hR⟩ := hC
  exact lv_ldcw hx hb hown (hts _ hm) hd (hk _ _ _ _ ho H locs ls hP hS hL hlen)
theorem zk_ldc2 {mt : Nat → Option ZT} {cc : ByteArray} {own : String} {rk pc : Nat} {i : Nat} {v : Int64} (hm : Cond.constantLong own i v ∈ zTB) (hd : decode cc pc = .ok (.ldc2_w i, 3)) : ZOK mt cc own rk pc (zo_l v (pc + 3)) := by
  intro p l e R s m args below meth c nL D dA ad A cells slots Q d E hC hE k lo st M o ho hk hr H locs ls hP hS hL hlen
  obtain ⟨hx, hb, hml, hown, hts, hnl, hK, hAd, hSt, hR⟩ := hC
  exact lv_ldc2 hx hb hown (hts _ hm) hd (hk _ _ _ _ ho H locs ls hP hS hL hlen)
def zo_il (i n : Nat) : ZP := fun E k lo st M => match lo[i]? with | some (some (.int x)) => k n lo (.int x :: st) M | _ => none
theorem zk_iload {mt : Nat → Option ZT} {cc : ByteArray} {own : String} {rk pc : Nat} {i : Nat} (hd : decode cc pc = .ok (.iload i, 2)) : ZOK mt cc own rk pc (zo_il i (pc + 2)) := by
  intro p l e R s m args below meth c nL D dA ad A cells slots Q d E hC hE k lo st M o ho hk hr H locs ls hP hS hL hlen
  obtain ⟨hx, hb, hml, hown, hts, hnl, hK, hAd, hSt, hR⟩ := hC
  unfold zo_il at ho
  split at ho
  · rename_i x hi
    exact lv_iload hx hb hd (hL.2.2 _ _ hi) (hk _ _ _ _ ho H locs ls hP hS hL hlen)
  · cases ho
theorem zk_iload_n {mt : Nat → Option ZT} {cc : ByteArray} {own : String} {rk pc : Nat} {j : Fin 4} {i : Nat} (hi : (j : Nat) = i) (hd : decode cc pc = .ok (.iload_n j, 1)) : ZOK mt cc own rk pc (zo_il i (pc + 1)) := by
  intro p l e R s m args below meth c nL D dA ad A cells slots Q d E hC hE k lo st M o ho hk hr H locs ls hP hS hL hlen
  obtain ⟨hx, hb, hml, hown, hts, hnl, hK, hAd, hSt, hR⟩ := hC
  unfold zo_il at ho
  split at ho
  · rename_i x hi2
    exact lv_iload_n hx hb hd hi (hL.2.2 _ _ hi2) (hk _ _ _ _ ho H locs ls hP hS hL hlen)
  · cases ho
def zo_ll (i n : Nat) : ZP := fun E k lo st M => match lo[i]? with | some (some (.long x)) => k n lo (.long x :: st) M | _ => none
theorem zk_lload {mt : Nat → Option ZT} {cc : ByteArray} {own : String} {rk pc : Nat} {i : Nat} (hd : decode cc pc = .ok (.lload i, 2)) : ZOK mt cc own rk pc (zo_ll i (pc + 2)) := by
  intro p l e R s m args below meth c nL D dA ad A cells slots Q d E hC hE k lo st M o ho hk hr H locs ls hP hS hL hlen
  obtain ⟨hx, hb, hml, hown, hts, hnl, hK, hAd, hSt, hR⟩ := hC
  unfold zo_ll at ho
  split at ho
  · rename_i x hi
    exact lv_lload hx hb hd (hL.2.2 _ _ hi) (hk _ _ _ _ ho H locs ls hP hS hL hlen)
  · cases ho
theorem zk_lload_n {mt : Nat → Option ZT} {cc : ByteArray} {own : String} {rk pc : Nat} {j : Fin 4} {i : Nat} (hi : (j : Nat) = i) (hd : decode cc pc = .ok (.lload_n j, 1)) : ZOK mt cc own rk pc (zo_ll i (pc + 1)) := by
  intro p l e R s m args below meth c nL D dA ad A cells slots Q d E hC hE k lo st M o ho hk hr H locs ls hP hS hL hlen
  obtain ⟨hx, hb, hml, hown, hts, hnl, hK, hAd, hSt, hR⟩ := hC
  unfold zo_ll at ho
  split at ho
  · rename_i x hi2
    exact lv_lload_n hx hb hd hi (hL.2.2 _ _ hi2) (hk _ _ _ _ ho H locs ls hP hS hL hlen)
  · cases ho
def zo_al (i n : Nat) : ZP := fun E k lo st M => match lo[i]? with | some (some (.ref x)) => k n lo (.ref x :: st) M | _ => none
theorem zk_aload {mt : Nat → Option ZT} {cc : ByteArray} {own : String} {rk pc : Nat} {i : Nat} (hd : decode cc pc = .ok (.aload i, 2)) : ZOK mt cc own rk pc (zo_al i (pc + 2)) := by
  intro p l e R s m args below meth c nL D dA ad A cells slots Q d E hC hE k lo st M o ho hk hr H locs ls hP hS hL hlen
  obtain ⟨hx, hb, hml, hown, hts, hnl, hK, hAd, hSt, hR⟩ := hC
  unfold zo_al at ho
  split at ho
  · rename_i x hi
    exact lv_aload hx hb hd (hL.2.2 _ _ hi) (hk _ _ _ _ ho H locs ls hP hS hL hlen)
  · cases ho
theorem zk_aload_n {mt : Nat → Option ZT} {cc : ByteArray} {own : String} {rk pc : Nat} {j : Fin 4} {i : Nat} (hi : (j : Nat) = i) (hd : decode cc pc = .ok (.aload_n j, 1)) : ZOK mt cc own rk pc (zo_al i (pc + 1)) := by
  intro p l e R s m args below meth c nL D dA ad A cells slots Q d E hC hE k lo st M o ho hk hr H locs ls hP hS hL hlen
  obtain ⟨hx, hb, hml, hown, hts, hnl, hK, hAd, hSt, hR⟩ := hC
  unfold zo_al at ho
  split at ho
  · rename_i x hi2
    exact lv_aload_n hx hb hd hi (hL.2.2 _ _ hi2) (hk _ _ _ _ ho H locs ls hP hS hL hlen)
  · cases ho
def zo_is (i n : Nat) : ZP := fun E k lo st M => match st with | .int x :: r => zck (decide (i < lo.length)) (k n (zs1 lo i (.int x)) r M) | _ => none
theorem zk_istore {mt : Nat → Option ZT} {cc : ByteArray} {own : String} {rk pc : Nat} {i : Nat} (hd : decode cc pc = .ok (.istore i, 2)) : ZOK mt cc own rk pc (zo_is i (pc + 2)) := by
  intro p l e R s m args below meth c nL D dA ad A cells slots Q d E hC hE k lo st M o ho hk hr H locs ls hP hS hL hlen
  obtain ⟨hx, hb, hml, hown, hts, hnl, hK, hAd, hSt, hR⟩ := hC
  unfold zo_is at ho
  split at ho
  · rename_i x r
    obtain ⟨hi1, ho⟩ := zck_some ho
    have hi2 := of_decide_eq_true hi1
    rw [hlen] at hi2
    exact lv_istore hx hb hd (zLH_has hL) hi2 rfl (fun ls' h' => hk _ _ _ _ ho H locs ls' hP hS (zLH_s1 h') (by rw [zs1_len]; exact hlen))
  · cases ho
theorem zk_istore_n {mt : Nat → Option ZT} {cc : ByteArray} {own : String} {rk pc : Nat} {j : Fin 4} {i : Nat} (hi : (j : Nat) = i) (hd : decode cc pc = .ok (.istore_n j, 1)) : ZOK mt cc own rk pc (zo_is i (pc + 1)) := by
  intro p l e R s m args below meth c nL D dA ad A cells slots Q d E hC hE k lo st M o ho hk hr H locs ls hP hS hL hlen
  obtain ⟨hx, hb, hml, hown, hts, hnl, hK, hAd, hSt, hR⟩ := hC
  unfold zo_is at ho
  split at ho
  · rename_i x r
    obtain ⟨hi1, ho⟩ := zck_some ho
    have hi2 := of_decide_eq_true hi1
    rw [hlen] at hi2
    exact lv_istore_n hx hb hd hi (zLH_has hL) hi2 rfl (fun ls' h' => hk _ _ _ _ ho H locs ls' hP hS (zLH_s1 h') (by rw [zs1_len]; exact hlen))
  · cases ho
def zo_ls (i n : Nat) : ZP := fun E k lo st M => match st with | .long x :: r => zck (decide (i + 1 < lo.length)) (k n (zs2 lo i (.long x)) r M) | _ => none
theorem zk_lstore {mt : Nat → Option ZT} {cc : ByteArray} {own : String} {rk pc : Nat} {i : Nat} (hd : decode cc pc = .ok (.lstore i, 2)) : ZOK mt cc own rk pc (zo_ls i (pc + 2)) := by
  intro p l e R s m args below meth c nL D dA ad A cells slots Q d E hC hE k lo st M o ho hk hr H locs ls hP hS hL hlen
  obtain ⟨hx, hb, hml, hown, hts, hnl, hK, hAd, hSt, hR⟩ := hC
  unfold zo_ls at ho
  split at ho
  · rename_i x r
    obtain ⟨hi1, ho⟩ := zck_some ho
    have hi2 := of_decide_eq_true hi1
    rw [hlen] at hi2
    exact lv_lstore hx hb hd (zLH_has hL) hi2 rfl (fun ls' h' => hk _ _ _ _ ho H locs ls' hP hS (zLH_s2 h') (by rw [zs2_len]; exact hlen))
  · cases ho
theorem zk_lstore_n {mt : Nat → Option ZT} {cc : ByteArray} {own : String} {rk pc : Nat} {j : Fin 4} {i : Nat} (hi : (j : Nat) = i) (hd : decode cc pc = .ok (.lstore_n j, 1)) : ZOK mt cc own rk pc (zo_ls i (pc + 1)) := by
  intro p l e R s m args below meth c nL D dA ad A cells slots Q d E hC hE k lo st M o ho hk hr H locs ls hP hS hL hlen
  obtain ⟨hx, hb, hml, hown, hts, hnl, hK, hAd, hSt, hR⟩ := hC
  unfold zo_ls at ho
  split at ho
  · rename_i x r
    obtain ⟨hi1, ho⟩ := zck_some ho
    have hi2 := of_decide_eq_true hi1
    rw [hlen] at hi2
    exact lv_lstore_n hx hb hd hi (zLH_has hL) hi2 rfl (fun ls' h' => hk _ _ _ _ ho H locs ls' hP hS (zLH_s2 h') (by rw [zs2_len]; exact hlen))
  · cases ho
def zo_as (i n : Nat) : ZP := fun E k lo st M => match st with | .ref x :: r => zck (decide (i < lo.length)) (k n (zs1 lo i (.ref x)) r M) | _ => none
theorem zk_astore {mt : Nat → Option ZT} {cc : ByteArray} {own : String} {rk pc : Nat} {i : Nat} (hd : decode cc pc = .ok (.astore i, 2)) : ZOK mt cc own rk pc (zo_as i (pc + 2)) := by
  intro p l e R s m args below meth c nL D dA ad A cells slots Q d E hC hE k lo st M o ho hk hr H locs ls hP hS hL hlen
  obtain ⟨hx, hb, hml, hown, hts, hnl, hK, hAd, hSt, hR⟩ := hC
  unfold zo_as at ho
  split at ho
  · rename_i x r
    obtain ⟨hi1, ho⟩ := zck_some ho
    have hi2 := of_decide_eq_true hi1
    rw [hlen] at hi2
    exact lv_astore hx hb hd (zLH_has hL) hi2 rfl (fun ls' h' => hk _ _ _ _ ho H locs ls' hP hS (zLH_s1 h') (by rw [zs1_len]; exact hlen))
  · cases ho
theorem zk_astore_n {mt : Nat → Option ZT} {cc : ByteArray} {own : String} {rk pc : Nat} {j : Fin 4} {i : Nat} (hi : (j : Nat) = i) (hd : decode cc pc = .ok (.astore_n j, 1)) : ZOK mt cc own rk pc (zo_as i (pc + 1)) := by
  intro p l e R s m args below meth c nL D dA ad A cells slots Q d E hC hE k lo st M o ho hk hr H locs ls hP hS hL hlen
  obtain ⟨hx, hb, hml, hown, hts, hnl, hK, hAd, hSt, hR⟩ := hC
  unfold zo_as at ho
  split at ho
  · rename_i x r
    obtain ⟨hi1, ho⟩ := zck_some ho
    have hi2 := of_decide_eq_true hi1
    rw [hlen] at hi2
    exact lv_astore_n hx hb hd hi (zLH_has hL) hi2 rfl (fun ls' h' => hk _ _ _ _ ho H locs ls' hP hS (zLH_s1 h') (by rw [zs1_len]; exact hlen))
  · cases ho
def zo_inc (i : Nat) (v : Int32) (n : Nat) : ZP := fun E k lo st M => match lo[i]? with | some (some (.int x)) => k n (zs1 lo i (.int (x + v))) st M | _ => none
theorem zas_place {ad : Nat → Nat} {lo : ZL} {i : Nat} {v : Value} (h : lo[i]? = some (some v)) : ∃ k : Nat, (zas ad lo)[k]? = some (i, ztr ad v) := List.mem_iff_getElem?.mp (zas_mem.mpr ⟨v, h, rfl⟩)
theorem zk_iinc {mt : Nat → Option ZT} {cc : ByteArray} {own : String} {rk pc : Nat} {i : Nat} {z : Int} {v : Int32} (hv : Int32.ofInt z = v) (hd : decode cc pc = .ok (.iinc i z, 3)) : ZOK mt cc own rk pc (zo_inc i v (pc + 3)) := by
  intro p l e R s m args below meth c nL D dA ad A cells slots Q d E hC hE k lo st M o ho hk hr H locs ls hP hS hL hlen
  obtain ⟨hx, hb, hml, hown, hts, hnl, hK, hAd, hSt, hR⟩ := hC
  unfold zo_inc at ho
  split at ho
  · rename_i x hi
    obtain ⟨kk, hkk⟩ := zas_place (ad := ad) hi
    have hlt := (List.getElem?_eq_some_iff.mp hi).1
    rw [hlen] at hlt
    exact lv_iinc (v := x + v) hx hb hd (zLH_has hL) hkk (by rw [hv]) hlt rfl (fun ls' h' => hk _ _ _ _ ho H locs ls' hP hS (zLH_s1 h') (by rw [zs1_len]; exact hlen))
  · cases ho
def zo_bin (f : Int32 → Int32 → Int32) (n : Nat) : ZP := fun E k lo st M => match st with | .int y :: .int x :: r => k n lo (.int (f x y) :: r) M | _ => none
def zshl (x y : Int32) : Int32 := x <<< (y &&& 31)
def zshr (x y : Int32) : Int32 := x >>> (y &&& 31)
def zushr (x y : Int32) : Int32 := (x.toUInt32 >>> (y.toUInt32 &&& Int32.toUInt32 31)).toInt32
def zrem (x y : Int32) : Int32 := x - x / y * y
def zlrem (x y : Int64) : Int64 := x - x / y * y
def zlshl (x : Int64) (y : Int32) : Int64 := x <<< (y.toInt64 &&& 63)
def zlshr (x : Int64) (y : Int32) : Int64 := x >>> (y.toInt64 &&& 63)
theorem zk_iadd {mt : Nat → Option ZT} {cc : ByteArray} {own : String} {rk pc : Nat} (hd : decode cc pc = .ok (.iadd, 1)) : ZOK mt cc own rk pc (zo_bin (· + ·) (pc + 1)) := by
  intro p l e R s m args below meth c nL D dA ad A cells slots Q d E hC hE k lo st M o ho hk hr H locs ls hP hS hL hlen
  obtain ⟨hx, hb, hml, hown, hts, hnl, hK, hAd, hSt, hR⟩ := hC
  unfold zo_bin at ho
  split at ho
  · exact lv_iadd hx hb hd (hk _ _ _ _ ho H locs ls hP hS hL hlen)
  · cases ho
theorem zk_isub {mt : Nat → Option ZT} {cc : ByteArray} {own : String} {rk pc : Nat} (hd : decode cc pc = .ok (.isub, 1)) : ZOK mt cc own rk pc (zo_bin (· - ·) (pc + 1)) := by
  intro p l e R s m args below meth c nL D dA ad A cells slots Q d E hC hE k lo st M o ho hk hr H locs ls hP hS hL hlen
  obtain ⟨hx, hb, hml, hown, hts, hnl, hK, hAd, hSt, hR⟩ := hC
  unfold zo_bin at ho
  split at ho
  · exact lv_isub hx hb hd (hk _ _ _ _ ho H locs ls hP hS hL hlen)
  · cases ho
theorem zk_imul {mt : Nat → Option ZT} {cc : ByteArray} {own : String} {rk pc : Nat} (hd : decode cc pc = .ok (.imul, 1)) : ZOK mt cc own rk pc (zo_bin (· * ·) (pc + 1)) := by
  intro p l e R s m args below meth c nL D dA ad A cells slots Q d E hC hE k lo st M o ho hk hr H locs ls hP hS hL hlen
  obtain ⟨hx, hb, hml, hown, hts, hnl, hK, hAd, hSt, hR⟩ := hC
  unfold zo_bin at ho
  split at ho
  · exact lv_imul hx hb hd (hk _ _ _ _ ho H locs ls hP hS hL hlen)
  · cases ho
theorem zk_iand {mt : Nat → Option ZT} {cc : ByteArray} {own : String} {rk pc : Nat} (hd : decode cc pc = .ok (.iand, 1)) : ZOK mt cc own rk pc (zo_bin (· &&& ·) (pc + 1)) := by
  intro p l e R s m args below meth c nL D dA ad A cells slots Q d E hC hE k lo st M o ho hk hr H locs ls hP hS hL hlen
  obtain ⟨hx, hb, hml, hown, hts, hnl, hK, hAd, hSt, hR⟩ := hC
  unfold zo_bin at ho
  split at ho
  · exact lv_iand hx hb hd (hk _ _ _ _ ho H locs ls hP hS hL hlen)
  · cases ho
theorem zk_ior {mt : Nat → Option ZT} {cc : ByteArray} {own : String} {rk pc : Nat} (hd : decode cc pc = .ok (.ior, 1)) : ZOK mt cc own rk pc (zo_bin (· ||| ·) (pc + 1)) := by
  intro p l e R s m args below meth c nL D dA ad A cells slots Q d E hC hE k lo st M o ho hk hr H locs ls hP hS hL hlen
  obtain ⟨hx, hb, hml, hown, hts, hnl, hK, hAd, hSt, hR⟩ := hC
  unfold zo_bin at ho
  split at ho
  · exact lv_ior hx hb hd (hk _ _ _ _ ho H locs ls hP hS hL hlen)
  · cases ho
theorem zk_ixor {mt : Nat → Option ZT} {cc : ByteArray} {own : String} {rk pc : Nat} (hd : decode cc pc = .ok (.ixor, 1)) : ZOK mt cc own rk pc (zo_bin (· ^^^ ·) (pc + 1)) := by
  intro p l e R s m args below meth c nL D dA ad A cells slots Q d E hC hE k lo st M o ho hk hr H locs ls hP hS hL hlen
  obtain ⟨hx, hb, hml, hown, hts, hnl, hK, hAd, hSt, hR⟩ := hC
  unfold zo_bin at ho
  split at ho
  · exact lv_ixor hx hb hd (hk _ _ _ _ ho H locs ls hP hS hL hlen)
  · cases ho
theorem zk_ishl {mt : Nat → Option ZT} {cc : ByteArray} {own : String} {rk pc : Nat} (hd : decode cc pc = .ok (.ishl, 1)) : ZOK mt cc own rk pc (zo_bin zshl (pc + 1)) := by
  intro p l e R s m args below meth c nL D dA ad A cells slots Q d E hC hE k lo st M o ho hk hr H locs ls hP hS hL hlen
  obtain ⟨hx, hb, hml, hown, hts, hnl, hK, hAd, hSt, hR⟩ := hC
  unfold zo_bin at ho
  split at ho
  · exact lv_ishl hx hb hd (hk _ _ _ _ ho H locs ls hP hS hL hlen)
  · cases ho
theorem zk_ishr {mt : Nat → Option ZT} {cc : ByteArray} {own : String} {rk pc : Nat} (hd : decode cc pc = .ok (.ishr, 1)) : ZOK mt cc own rk pc (zo_bin zshr (pc + 1)) := by
  intro p l e R s m args below meth c nL D dA ad A cells slots Q d E hC hE k lo st M o ho hk hr H locs ls hP hS hL hlen
  obtain ⟨hx, hb, hml, hown, hts, hnl, hK, hAd, hSt, hR⟩ := hC
  unfold zo_bin at ho
  split at ho
  · exact lv_ishr hx hb hd (hk _ _ _ _ ho H locs ls hP hS hL hlen)
  · cases ho
theorem zk_iushr {mt : Nat → Option ZT} {cc : ByteArray} {own : String} {rk pc : Nat} (hd : decode cc pc = .ok (.iushr, 1)) : ZOK mt cc own rk pc (zo_bin zushr (pc + 1)) := by
  intro p l e R s m args below meth c nL D dA ad A cells slots Q d E hC hE k lo st M o ho hk hr H locs ls hP hS hL hlen
  obtain ⟨hx, hb, hml, hown, hts, hnl, hK, hAd, hSt, hR⟩ := hC
  unfold zo_bin at ho
  split at ho
  · exact lv_iushr hx hb hd rfl (hk _ _ _ _ ho H locs ls hP hS hL hlen)
  · cases ho
def zo_dv (f : Int32 → Int32 → Int32) (n : Nat) : ZP := fun E k lo st M => match st with | .int y :: .int x :: r => zck (!(decide (y = 0))) (k n lo (.int (f x y) :: r) M) | _ => none
theorem zk_idiv {mt : Nat → Option ZT} {cc : ByteArray} {own : String} {rk pc : Nat} (hd : decode cc pc = .ok (.idiv, 1)) : ZOK mt cc own rk pc (zo_dv (· / ·) (pc + 1)) := by
  intro p l e R s m args below meth c nL D dA ad A cells slots Q d E hC hE k lo st M o ho hk hr H locs ls hP hS hL hlen
  obtain ⟨hx, hb, hml, hown, hts, hnl, hK, hAd, hSt, hR⟩ := hC
  unfold zo_dv at ho
  split at ho
  · obtain ⟨h1, ho⟩ := zck_some ho
    exact lv_idiv hx hb hd (by simpa using h1) (hk _ _ _ _ ho H locs ls hP hS hL hlen)
  · cases ho
theorem zk_irem {mt : Nat → Option ZT} {cc : ByteArray} {own : String} {rk pc : Nat} (hd : decode cc pc = .ok (.irem, 1)) : ZOK mt cc own rk pc (zo_dv zrem (pc + 1)) := by
  intro p l e R s m args below meth c nL D dA ad A cells slots Q d E hC hE k lo st M o ho hk hr H locs ls hP hS hL hlen
  obtain ⟨hx, hb, hml, hown, hts, hnl, hK, hAd, hSt, hR⟩ := hC
  unfold zo_dv at ho
  split at ho
  · obtain ⟨h1, ho⟩ := zck_some ho
    exact lv_irem hx hb hd (by simpa using h1) (hk _ _ _ _ ho H locs ls hP hS hL hlen)
  · cases ho
def zo_un (f : Int32 → Int32) (n : Nat) : ZP := fun E k lo st M => match st with | .int x :: r => k n lo (.int (f x) :: r) M | _ => none
theorem zk_ineg {mt : Nat → Option ZT} {cc : ByteArray} {own : String} {rk pc : Nat} (hd : decode cc pc = .ok (.ineg, 1)) : ZOK mt cc own rk pc (zo_un (fun x => -x) (pc + 1)) := by
  intro p l e R s m args below meth c nL D dA ad A cells slots Q d E hC hE k lo st M o ho hk hr H locs ls hP hS hL hlen
  obtain ⟨hx, hb, hml, hown, hts, hnl, hK, hAd, hSt, hR⟩ := hC
  unfold zo_un at ho
  split at ho
  · exact lv_ineg hx hb hd (hk _ _ _ _ ho H locs ls hP hS hL hlen)
  · cases ho
theorem zk_i2b {mt : Nat → Option ZT} {cc : ByteArray} {own : String} {rk pc : Nat} (hd : decode cc pc = .ok (.i2b, 1)) : ZOK mt cc own rk pc (zo_un (fun x => x.toInt8.toInt32) (pc + 1)) := by
  intro p l e R s m args below meth c nL D dA ad A cells slots Q d E hC hE k lo st M o ho hk hr H locs ls hP hS hL hlen
  obtain ⟨hx, hb, hml, hown, hts, hnl, hK, hAd, hSt, hR⟩ := hC
  unfold zo_un at ho
  split at ho
  · exact lv_i2b hx hb hd rfl (hk _ _ _ _ ho H locs ls hP hS hL hlen)
  · cases ho
theorem zk_i2s {mt : Nat → Option ZT} {cc : ByteArray} {own : String} {rk pc : Nat} (hd : decode cc pc = .ok (.i2s, 1)) : ZOK mt cc own rk pc (zo_un (fun x => x.toInt16.toInt32) (pc + 1)) := by
  intro p l e R s m args below meth c nL D dA ad A cells slots Q d E hC hE k lo st M o ho hk hr H locs ls hP hS hL hlen
  obtain ⟨hx, hb, hml, hown, hts, hnl, hK, hAd, hSt, hR⟩ := hC
  unfold zo_un at ho
  split at ho
  · exact lv_i2s hx hb hd rfl (hk _ _ _ _ ho H locs ls hP hS hL hlen)
  · cases ho
def zo_i2l (n : Nat) : ZP := fun E k lo st M => match st with | .int x :: r => k n lo (.long x.toInt64 :: r) M | _ => none
def zo_l2i (n : Nat) : ZP := fun E k lo st M => match st with | .long x :: r => k n lo (.int x.toInt32 :: r) M | _ => none
theorem zk_i2l {mt : Nat → Option ZT} {cc : ByteArray} {own : String} {rk pc : Nat} (hd : decode cc pc = .ok (.i2l, 1)) : ZOK mt cc own rk pc (zo_i2l (pc + 1)) := by
  intro p l e R s m args below meth c nL D dA ad A cells slots Q d E hC hE k lo st M o ho hk hr H locs ls hP hS hL hlen
  obtain ⟨hx, hb, hml, hown, hts, hnl, hK, hAd, hSt, hR⟩ := hC
  unfold zo_i2l at ho
  split at ho
  · exact lv_i2l hx hb hd rfl (hk _ _ _ _ ho H locs ls hP hS hL hlen)
  · cases ho
theorem zk_l2i {mt : Nat → Option ZT} {cc : ByteArray} {own : String} {rk pc : Nat} (hd : decode cc pc = .ok (.l2i, 1)) : ZOK mt cc own rk pc (zo_l2i (pc + 1)) := by
  intro p l e R s m args below meth c nL D dA ad A cells slots Q d E hC hE k lo st M o ho hk hr H locs ls hP hS hL hlen
  obtain ⟨hx, hb, hml, hown, hts, hnl, hK, hAd, hSt, hR⟩ := hC
  unfold zo_l2i at ho
  split at ho
  · exact lv_l2i hx hb hd rfl (hk _ _ _ _ ho H locs ls hP hS hL hlen)
  · cases ho
def zo_lbin (f : Int64 → Int64 → Int64) (n : Nat) : ZP := fun E k lo st M => match st with | .long y :: .long x :: r => k n lo (.long (f x y) :: r) M | _ => none
theorem zk_ladd {mt : Nat → Option ZT} {cc : ByteArray} {own : String} {rk pc : Nat} (hd : decode cc pc = .ok (.ladd, 1)) : ZOK mt cc own rk pc (zo_lbin (· + ·) (pc + 1)) := by
  intro p l e R s m args below meth c nL D dA ad A cells slots Q d E hC hE k lo st M o ho hk hr H locs ls hP hS hL hlen
  obtain ⟨hx, hb, hml, hown, hts, hnl, hK, hAd, hSt, hR⟩ := hC
  unfold zo_lbin at ho
  split at ho
  · exact lv_ladd hx hb hd (hk _ _ _ _ ho H locs ls hP hS hL hlen)
  · cases ho
theorem zk_lsub {mt : Nat → Option ZT} {cc : ByteArray} {own : String} {rk pc : Nat} (hd : decode cc pc = .ok (.lsub, 1)) : ZOK mt cc own rk pc (zo_lbin (· - ·) (pc + 1)) := by
  intro p l e R s m args below meth c nL D dA ad A cells slots Q d E hC hE k lo st M o ho hk hr H locs ls hP hS hL hlen
  obtain ⟨hx, hb, hml, hown, hts, hnl, hK, hAd, hSt, hR⟩ := hC
  unfold zo_lbin at ho
  split at ho
  · exact lv_lsub hx hb hd (hk _ _ _ _ ho H locs ls hP hS hL hlen)
  · cases ho
theorem zk_lmul {mt : Nat → Option ZT} {cc : ByteArray} {own : String} {rk pc : Nat} (hd : decode cc pc = .ok (.lmul, 1)) : ZOK mt cc own rk pc (zo_lbin (· * ·) (pc + 1)) := by
  intro p l e R s m args below meth c nL D dA ad A cells slots Q d E hC hE k lo st M o ho hk hr H locs ls hP hS hL hlen
  obtain ⟨hx, hb, hml, hown, hts, hnl, hK, hAd, hSt, hR⟩ := hC
  unfold zo_lbin at ho
  split at ho
  · exact lv_lmul hx hb hd (hk _ _ _ _ ho H locs ls hP hS hL hlen)
  · cases ho
theorem zk_land {mt : Nat → Option ZT} {cc : ByteArray} {own : String} {rk pc : Nat} (hd : decode cc pc = .ok (.land, 1)) : ZOK mt cc own rk pc (zo_lbin (· &&& ·) (pc + 1)) := by
  intro p l e R s m args below meth c nL D dA ad A cells slots Q d E hC hE k lo st M o ho hk hr H locs ls hP hS hL hlen
  obtain ⟨hx, hb, hml, hown, hts, hnl, hK, hAd, hSt, hR⟩ := hC
  unfold zo_lbin at ho
  split at ho
  · exact lv_land hx hb hd (hk _ _ _ _ ho H locs ls hP hS hL hlen)
  · cases ho
theorem zk_lor {mt : Nat → Option ZT} {cc : ByteArray} {own : String} {rk pc : Nat} (hd : decode cc pc = .ok (.lor, 1)) : ZOK mt cc own rk pc (zo_lbin (· ||| ·) (pc + 1)) := by
  intro p l e R s m args below meth c nL D dA ad A cells slots Q d E hC hE k lo st M o ho hk hr H locs ls hP hS hL hlen
  obtain ⟨hx, hb, hml, hown, hts, hnl, hK, hAd, hSt, hR⟩ := hC
  unfold zo_lbin at ho
  split at ho
  · exact lv_lor hx hb hd (hk _ _ _ _ ho H locs ls hP hS hL hlen)
  · cases ho
def zo_ldv (f : Int64 → Int64 → Int64) (n : Nat) : ZP := fun E k lo st M => match st with | .long y :: .long x :: r => zck (!(decide (y = 0))) (k n lo (.long (f x y) :: r) M) | _ => none
theorem zk_ldiv {mt : Nat → Option ZT} {cc : ByteArray} {own : String} {rk pc : Nat} (hd : decode cc pc = .ok (.ldiv, 1)) : ZOK mt cc own rk pc (zo_ldv (· / ·) (pc + 1)) := by
  intro p l e R s m args below meth c nL D dA ad A cells slots Q d E hC hE k lo st M o ho hk hr H locs ls hP hS hL hlen
  obtain ⟨hx, hb, hml, hown, hts, hnl, hK, hAd, hSt, hR⟩ := hC
  unfold zo_ldv at ho
  split at ho
  · obtain ⟨h1, ho⟩ := zck_some ho
    exact lv_ldiv hx hb hd (by simpa using h1) (hk _ _ _ _ ho H locs ls hP hS hL hlen)
  · cases ho
theorem zk_lrem {mt : Nat → Option ZT} {cc : ByteArray} {own : String} {rk pc : Nat} (hd : decode cc pc = .ok (.lrem, 1)) : ZOK mt cc own rk pc (zo_ldv zlrem (pc + 1)) := by
  intro p l e R s m args below meth c nL D dA ad A cells slots Q d E hC hE k lo st M o ho hk hr H locs ls hP hS hL hlen
  obtain ⟨hx, hb, hml, hown, hts, hnl, hK, hAd, hSt, hR⟩ := hC
  unfold zo_ldv at ho
  split at ho
  · obtain ⟨h1, ho⟩ := zck_some ho
    exact lv_lrem hx hb hd (by simpa using h1) (hk _ _ _ _ ho H locs ls hP hS hL hlen)
  · cases ho
def zo_lsh (f : Int64 → Int32 → Int64) (n : Nat) : ZP := fun E k lo st M => match st with | .int y :: .long x :: r => k n lo (.long (f x y) :: r) M | _ => none
theorem zk_lshl {mt : Nat → Option ZT} {cc : ByteArray} {own : String} {rk pc : Nat} (hd : decode cc pc = .ok (.lshl, 1)) : ZOK mt cc own rk pc (zo_lsh zlshl (pc + 1)) := by
  intro p l e R s m args below meth c nL D dA ad A cells slots Q d E hC hE k lo st M o ho hk hr H locs ls hP hS hL hlen
  obtain ⟨hx, hb, hml, hown, hts, hnl, hK, hAd, hSt, hR⟩ := hC
  unfold zo_lsh at ho
  split at ho
  · exact lv_lshl hx hb hd rfl (hk _ _ _ _ ho H locs ls hP hS hL hlen)
  · cases ho
theorem zk_lshr {mt : Nat → Option ZT} {cc : ByteArray} {own : String} {rk pc : Nat} (hd : decode cc pc = .ok (.lshr, 1)) : ZOK mt cc own rk pc (zo_lsh zlshr (pc + 1)) := by
  intro p l e R s m args below meth c nL D dA ad A cells slots Q d E hC hE k lo st M o ho hk hr H locs ls hP hS hL hlen
  obtain ⟨hx, hb, hml, hown, hts, hnl, hK, hAd, hSt, hR⟩ := hC
  unfold zo_lsh at ho
  split at ho
  · exact lv_lshr hx hb hd rfl (hk _ _ _ _ ho H locs ls hP hS hL hlen)
  · cases ho
def zo_lcmp (n : Nat) : ZP := fun E k lo st M => match st with | .long y :: .long x :: r => k n lo (.int (lg_cmp x y) :: r) M | _ => none
theorem zk_lcmp {mt : Nat → Option ZT} {cc : ByteArray} {own : String} {rk pc : Nat} (hd : decode cc pc = .ok (.lcmp, 1)) : ZOK mt cc own rk pc (zo_lcmp (pc + 1)) := by
  intro p l e R s m args below meth c nL D dA ad A cells slots Q d E hC hE k lo st M o ho hk hr H locs ls hP hS hL hlen
  obtain ⟨hx, hb, hml, hown, hts, hnl, hK, hAd, hSt, hR⟩ := hC
  unfold zo_lcmp at ho
  split at ho
  · exact W.lcmp hx hb hd (hk _ _ _ _ ho H locs ls hP hS hL hlen)
  · cases ho
def zo_dup (n : Nat) : ZP := fun E k lo st M => match st with | v :: r => zck (v.category == 1) (k n lo (v :: v :: r) M) | _ => none
theorem zk_dup {mt : Nat → Option ZT} {cc : ByteArray} {own : String} {rk pc : Nat} (hd : decode cc pc = .ok (.dup, 1)) : ZOK mt cc own rk pc (zo_dup (pc + 1)) := by
  intro p l e R s m args below meth c nL D dA ad A cells slots Q d E hC hE k lo st M o ho hk hr H locs ls hP hS hL hlen
  obtain ⟨hx, hb, hml, hown, hts, hnl, hK, hAd, hSt, hR⟩ := hC
  unfold zo_dup at ho
  split at ho
  · rename_i v r
    obtain ⟨h1, ho⟩ := zck_some ho
    exact lv_dup hx hb hd (by rw [ztr_cat]; simpa using h1) (hk _ _ _ _ ho H locs ls hP hS hL hlen)
  · cases ho
def zo_pop (n : Nat) : ZP := fun E k lo st M => match st with | v :: r => zck (v.category == 1) (k n lo r M) | _ => none
theorem zk_pop {mt : Nat → Option ZT} {cc : ByteArray} {own : String} {rk pc : Nat} (hd : decode cc pc = .ok (.pop, 1)) : ZOK mt cc own rk pc (zo_pop (pc + 1)) := by
  intro p l e R s m args below meth c nL D dA ad A cells slots Q d E hC hE k lo st M o ho hk hr H locs ls hP hS hL hlen
  obtain ⟨hx, hb, hml, hown, hts, hnl, hK, hAd, hSt, hR⟩ := hC
  unfold zo_pop at ho
  split at ho
  · rename_i v r
    obtain ⟨h1, ho⟩ := zck_some ho
    exact lv_pop hx hb hd (by rw [ztr_cat]; simpa using h1) (hk _ _ _ _ ho H locs ls hP hS hL hlen)
  · cases ho
def zo_dup2 (n : Nat) : ZP := fun E k lo st M => match st with | v :: w :: r => zck (v.category == 1 && w.category == 1) (k n lo (v :: w :: v :: w :: r) M) | _ => none
theorem zk_dup2 {mt : Nat → Option ZT} {cc : ByteArray} {own : String} {rk pc : Nat} (hd : decode cc pc = .ok (.dup2, 1)) : ZOK mt cc own rk pc (zo_dup2 (pc + 1)) := by
  intro p l e R s m args below meth c nL D dA ad A cells slots Q d E hC hE k lo st M o ho hk hr H locs ls hP hS hL hlen
  obtain ⟨hx, hb, hml, hown, hts, hnl, hK, hAd, hSt, hR⟩ := hC
  unfold zo_dup2 at ho
  split at ho
  · rename_i v w r
    obtain ⟨h1, ho⟩ := zck_some ho
    simp only [Bool.and_eq_true, beq_iff_eq] at h1
    exact lv_dup2_11 hx hb hd (by rw [ztr_cat]; exact h1.1) (by rw [ztr_cat]; exact h1.2) (hk _ _ _ _ ho H locs ls hP hS hL hlen)
  · cases ho
def zo_ifeq (t n : Nat) : ZP := fun E k lo st M => match st with | .int x :: r => if x = 0 then k t lo r M else k n lo r M | _ => none
theorem zk_ifeq {mt : Nat → Option ZT} {cc : ByteArray} {own : String} {rk pc : Nat} {off : Int} {t : Nat} (ht : (pc : Int) + off = (t : Int)) (hd : decode cc pc = .ok (.ifCond .eq off, 3)) : ZOK mt cc own rk pc (zo_ifeq t (pc + 3)) := by
  intro p l e R s m args below meth c nL D dA ad A cells slots Q d E hC hE k lo st M o ho hk hr H locs ls hP hS hL hlen
  obtain ⟨hx, hb, hml, hown, hts, hnl, hK, hAd, hSt, hR⟩ := hC
  unfold zo_ifeq at ho
  split at ho
  · rename_i x r
    refine lv_if_eq hx hb hd ht (fun h1 => ?_) (fun h1 => ?_)
    · rw [if_pos h1] at ho
      exact hk _ _ _ _ ho H locs ls hP hS hL hlen
    · rw [if_neg h1] at ho
      exact hk _ _ _ _ ho H locs ls hP hS hL hlen
  · cases ho
def zo_ifne (t n : Nat) : ZP := fun E k lo st M => match st with | .int x :: r => if x = 0 then k n lo r M else k t lo r M | _ => none
theorem zk_ifne {mt : Nat → Option ZT} {cc : ByteArray} {own : String} {rk pc : Nat} {off : Int} {t : Nat} (ht : (pc : Int) + off = (t : Int)) (hd : decode cc pc = .ok (.ifCond .ne off, 3)) : ZOK mt cc own rk pc (zo_ifne t (pc + 3)) := by
  intro p l e R s m args below meth c nL D dA ad A cells slots Q d E hC hE k lo st M o ho hk hr H locs ls hP hS hL hlen
  obtain ⟨hx, hb, hml, hown, hts, hnl, hK, hAd, hSt, hR⟩ := hC
  unfold zo_ifne at ho
  split at ho
  · rename_i x r
    refine lv_if_ne hx hb hd ht (fun h1 => ?_) (fun h1 => ?_)
    · rw [if_neg h1] at ho
      exact hk _ _ _ _ ho H locs ls hP hS hL hlen
    · rw [if_pos h1] at ho
      exact hk _ _ _ _ ho H locs ls hP hS hL hlen
  · cases ho
def zo_iflt (t n : Nat) : ZP := fun E k lo st M => match st with | .int x :: r => if x < 0 then k t lo r M else k n lo r M | _ => none
theorem zk_iflt {mt : Nat → Option ZT} {cc : ByteArray} {own : String} {rk pc : Nat} {off : Int} {t : Nat} (ht : (pc : Int) + off = (t : Int)) (hd : decode cc pc = .ok (.ifCond .lt off, 3)) : ZOK mt cc own rk pc (zo_iflt t (pc + 3)) := by
  intro p l e R s m args below meth c nL D dA ad A cells slots Q d E hC hE k lo st M o ho hk hr H locs ls hP hS hL hlen
  obtain ⟨hx, hb, hml, hown, hts, hnl, hK, hAd, hSt, hR⟩ := hC
  unfold zo_iflt at ho
  split at ho
  · rename_i x r
    refine lv_if_lt hx hb hd ht (fun h1 => ?_) (fun h1 => ?_)
    · rw [if_pos h1] at ho
      exact hk _ _ _ _ ho H locs ls hP hS hL hlen
    · rw [if_neg h1] at ho
      exact hk _ _ _ _ ho H locs ls hP hS hL hlen
  · cases ho
def zo_ifge (t n : Nat) : ZP := fun E k lo st M => match st with | .int x :: r => if 0 ≤ x then k t lo r M else k n lo r M | _ => none
theorem zk_ifge {mt : Nat → Option ZT} {cc : ByteArray} {own : String} {rk pc : Nat} {off : Int} {t : Nat} (ht : (pc : Int) + off = (t : Int)) (hd : decode cc pc = .ok (.ifCond .ge off, 3)) : ZOK mt cc own rk pc (zo_ifge t (pc + 3)) := by
  intro p l e R s m args below meth c nL D dA ad A cells slots Q d E hC hE k lo st M o ho hk hr H locs ls hP hS hL hlen
  obtain ⟨hx, hb, hml, hown, hts, hnl, hK, hAd, hSt, hR⟩ := hC
  unfold zo_ifge at ho
  split at ho
  · rename_i x r
    refine lv_if_ge hx hb hd ht (fun h1 => ?_) (fun h1 => ?_)
    · rw [if_pos h1] at ho
      exact hk _ _ _ _ ho H locs ls hP hS hL hlen
    · rw [if_neg h1] at ho
      exact hk _ _ _ _ ho H locs ls hP hS hL hlen
  · cases ho
def zo_ifgt (t n : Nat) : ZP := fun E k lo st M => match st with | .int x :: r => if 0 < x then k t lo r M else k n lo r M | _ => none
theorem zk_ifgt {mt : Nat → Option ZT} {cc : ByteArray} {own : String} {rk pc : Nat} {off : Int} {t : Nat} (ht : (pc : Int) + off = (t : Int)) (hd : decode cc pc = .ok (.ifCond .gt off, 3)) : ZOK mt cc own rk pc (zo_ifgt t (pc + 3)) := by
  intro p l e R s m args below meth c nL D dA ad A cells slots Q d E hC hE k lo st M o ho hk hr H locs ls hP hS hL hlen
  obtain ⟨hx, hb, hml, hown, hts, hnl, hK, hAd, hSt, hR⟩ := hC
  unfold zo_ifgt at ho
  split at ho
  · rename_i x r
    refine lv_if_gt hx hb hd ht (fun h1 => ?_) (fun h1 => ?_)
    · rw [if_pos h1] at ho
      exact hk _ _ _ _ ho H locs ls hP hS hL hlen
    · rw [if_neg h1] at ho
      exact hk _ _ _ _ ho H locs ls hP hS hL hlen
  · cases ho
def zo_ifle (t n : Nat) : ZP := fun E k lo st M => match st with | .int x :: r => if x ≤ 0 then k t lo r M else k n lo r M | _ => none
theorem zk_ifle {mt : Nat → Option ZT} {cc : ByteArray} {own : String} {rk pc : Nat} {off : Int} {t : Nat} (ht : (pc : Int) + off = (t : Int)) (hd : decode cc pc = .ok (.ifCond .le off, 3)) : ZOK mt cc own rk pc (zo_ifle t (pc + 3)) := by
  intro p l e R s m args below meth c nL D dA ad A cells slots Q d E hC hE k lo st M o ho hk hr H locs ls hP hS hL hlen
  obtain ⟨hx, hb, hml, hown, hts, hnl, hK, hAd, hSt, hR⟩ := hC
  unfold zo_ifle at ho
  split at ho
  · rename_i x r
    refine lv_if_le hx hb hd ht (fun h1 => ?_) (fun h1 => ?_)
    · rw [if_pos h1] at ho
      exact hk _ _ _ _ ho H locs ls hP hS hL hlen
    · rw [if_neg h1] at ho
      exact hk _ _ _ _ ho H locs ls hP hS hL hlen
  · cases ho
def zo_iceq (t n : Nat) : ZP := fun E k lo st M => match st with | .int y :: .int x :: r => if x = y then k t lo r M else k n lo r M | _ => none
theorem zk_iceq {mt : Nat → Option ZT} {cc : ByteArray} {own : String} {rk pc : Nat} {off : Int} {t : Nat} (ht : (pc : Int) + off = (t : Int)) (hd : decode cc pc = .ok (.if_icmp .eq off, 3)) : ZOK mt cc own rk pc (zo_iceq t (pc + 3)) := by
  intro p l e R s m args below meth c nL D dA ad A cells slots Q d E hC hE k lo st M o ho hk hr H locs ls hP hS hL hlen
  obtain ⟨hx, hb, hml, hown, hts, hnl, hK, hAd, hSt, hR⟩ := hC
  unfold zo_iceq at ho
  split at ho
  · rename_i y x r
    refine lv_icmp_eq hx hb hd ht (fun h1 => ?_) (fun h1 => ?_)
    · rw [if_pos h1] at ho
      exact hk _ _ _ _ ho H locs ls hP hS hL hlen
    · rw [if_neg h1] at ho
      exact hk _ _ _ _ ho H locs ls hP hS hL hlen
  · cases ho
def zo_icne (t n : Nat) : ZP := fun E k lo st M => match st with | .int y :: .int x :: r => if x = y then k n lo r M else k t lo r M | _ => none
theorem zk_icne {mt : Nat → Option ZT} {cc : ByteArray} {own : String} {rk pc : Nat} {off : Int} {t : Nat} (ht : (pc : Int) + off = (t : Int)) (hd : decode cc pc = .ok (.if_icmp .ne off, 3)) : ZOK mt cc own rk pc (zo_icne t (pc + 3)) := by
  intro p l e R s m args below meth c nL D dA ad A cells slots Q d E hC hE k lo st M o ho hk hr H locs ls hP hS hL hlen
  obtain ⟨hx, hb, hml, hown, hts, hnl, hK, hAd, hSt, hR⟩ := hC
  unfold zo_icne at ho
  split at ho
  · rename_i y x r
    refine lv_icmp_ne hx hb hd ht (fun h1 => ?_) (fun h1 => ?_)
    · rw [if_neg h1] at ho
      exact hk _ _ _ _ ho H locs ls hP hS hL hlen
    · rw [if_pos h1] at ho
      exact hk _ _ _ _ ho H locs ls hP hS hL hlen
  · cases ho
def zo_iclt (t n : Nat) : ZP := fun E k lo st M => match st with | .int y :: .int x :: r => if x < y then k t lo r M else k n lo r M | _ => none
theorem zk_iclt {mt : Nat → Option ZT} {cc : ByteArray} {own : String} {rk pc : Nat} {off : Int} {t : Nat} (ht : (pc : Int) + off = (t : Int)) (hd : decode cc pc = .ok (.if_icmp .lt off, 3)) : ZOK mt cc own rk pc (zo_iclt t (pc + 3)) := by
  intro p l e R s m args below meth c nL D dA ad A cells slots Q d E hC hE k lo st M o ho hk hr H locs ls hP hS hL hlen
  obtain ⟨hx, hb, hml, hown, hts, hnl, hK, hAd, hSt, hR⟩ := hC
  unfold zo_iclt at ho
  split at ho
  · rename_i y x r
    refine lv_icmp_lt hx hb hd ht (fun h1 => ?_) (fun h1 => ?_)
    · rw [if_pos h1] at ho
      exact hk _ _ _ _ ho H locs ls hP hS hL hlen
    · rw [if_neg h1] at ho
      exact hk _ _ _ _ ho H locs ls hP hS hL hlen
  · cases ho
def zo_icge (t n : Nat) : ZP := fun E k lo st M => match st with | .int y :: .int x :: r => if y ≤ x then k t lo r M else k n lo r M | _ => none
theorem zk_icge {mt : Nat → Option ZT} {cc : ByteArray} {own : String} {rk pc : Nat} {off : Int} {t : Nat} (ht : (pc : Int) + off = (t : Int)) (hd : decode cc pc = .ok (.if_icmp .ge off, 3)) : ZOK mt cc own rk pc (zo_icge t (pc + 3)) := by
  intro p l e R s m args below meth c nL D dA ad A cells slots Q d E hC hE k lo st M o ho hk hr H locs ls hP hS hL hlen
  obtain ⟨hx, hb, hml, hown, hts, hnl, hK, hAd, hSt, hR⟩ := hC
  unfold zo_icge at ho
  split at ho
  · rename_i y x r
    refine lv_icmp_ge hx hb hd ht (fun h1 => ?_) (fun h1 => ?_)
    · rw [if_pos h1] at ho
      exact hk _ _ _ _ ho H locs ls hP hS hL hlen
    · rw [if_neg h1] at ho
      exact hk _ _ _ _ ho H locs ls hP hS hL hlen
  · cases ho
def zo_icgt (t n : Nat) : ZP := fun E k lo st M => match st with | .int y :: .int x :: r => if y < x then k t lo r M else k n lo r M | _ => none
theorem zk_icgt {mt : Nat → Option ZT} {cc : ByteArray} {own : String} {rk pc : Nat} {off : Int} {t : Nat} (ht : (pc : Int) + off = (t : Int)) (hd : decode cc pc = .ok (.if_icmp .gt off, 3)) : ZOK mt cc own rk pc (zo_icgt t (pc + 3)) := by
  intro p l e R s m args below meth c nL D dA ad A cells slots Q d E hC hE k lo st M o ho hk hr H locs ls hP hS hL hlen
  obtain ⟨hx, hb, hml, hown, hts, hnl, hK, hAd, hSt, hR⟩ := hC
  unfold zo_icgt at ho
  split at ho
  · rename_i y x r
    refine lv_icmp_gt hx hb hd ht (fun h1 => ?_) (fun h1 => ?_)
    · rw [if_pos h1] at ho
      exact hk _ _ _ _ ho H locs ls hP hS hL hlen
    · rw [if_neg h1] at ho
      exact hk _ _ _ _ ho H locs ls hP hS hL hlen
  · cases ho
def zo_icle (t n : Nat) : ZP := fun E k lo st M => match st with | .int y :: .int x :: r => if x ≤ y then k t lo r M else k n lo r M | _ => none
theorem zk_icle {mt : Nat → Option ZT} {cc : ByteArray} {own : String} {rk pc : Nat} {off : Int} {t : Nat} (ht : (pc : Int) + off = (t : Int)) (hd : decode cc pc = .ok (.if_icmp .le off, 3)) : ZOK mt cc own rk pc (zo_icle t (pc + 3)) := by
  intro p l e R s m args below meth c nL D dA ad A cells slots Q d E hC hE k lo st M o ho hk hr H locs ls hP hS hL hlen
  obtain ⟨hx, hb, hml, hown, hts, hnl, hK, hAd, hSt, hR⟩ := hC
  unfold zo_icle at ho
  split at ho
  · rename_i y x r
    refine lv_icmp_le hx hb hd ht (fun h1 => ?_) (fun h1 => ?_)
    · rw [if_pos h1] at ho
      exact hk _ _ _ _ ho H locs ls hP hS hL hlen
    · rw [if_neg h1] at ho
      exact hk _ _ _ _ ho H locs ls hP hS hL hlen
  · cases ho
def zo_goto (t : Nat) : ZP := fun E k lo st M => k t lo st M
theorem zk_goto {mt : Nat → Option ZT} {cc : ByteArray} {own : String} {rk pc : Nat} {off : Int} {t : Nat} (ht : (pc : Int) + off = (t : Int)) (hd : decode cc pc = .ok (.goto off, 3)) : ZOK mt cc own rk pc (zo_goto t) := by
  intro p l e R s m args below meth c nL D dA ad A cells slots Q d E hC hE k lo st M o ho hk hr H locs ls hP hS hL hlen
  obtain ⟨hx, hb, hml, hown, hts, hnl, hK, hAd, hSt, hR⟩ := hC
  exact lv_goto hx hb hd ht (hk _ _ _ _ ho H locs ls hP hS hL hlen)
def zo_retv : ZP := fun E k lo st M => match st with | [] => some (.inl (none, M)) | _ => none
theorem zk_retv {mt : Nat → Option ZT} {cc : ByteArray} {own : String} {rk pc : Nat} (hrk : rk = 0) (hd : decode cc pc = .ok (.return_, 1)) : ZOK mt cc own rk pc (zo_retv) := by
  intro p l e R s m args below meth c nL D dA ad A cells slots Q d E hC hE k lo st M o ho hk hr H locs ls hP hS hL hlen
  obtain ⟨hx, hb, hml, hown, hts, hnl, hK, hAd, hSt, hR⟩ := hC
  unfold zo_retv at ho
  split at ho
  · have h2 := Option.some.inj ho
    exact hr _ h2.symm pc H locs ls hP hS (Or.inl ⟨hrk, rfl, hd⟩)
  · cases ho
def zo_reti : ZP := fun E k lo st M => match st with | [.int x] => some (.inl (some (.int x), M)) | _ => none
theorem zk_reti {mt : Nat → Option ZT} {cc : ByteArray} {own : String} {rk pc : Nat} (hrk : rk = 1) (hd : decode cc pc = .ok (.ireturn, 1)) : ZOK mt cc own rk pc (zo_reti) := by
  intro p l e R s m args below meth c nL D dA ad A cells slots Q d E hC hE k lo st M o ho hk hr H locs ls hP hS hL hlen
  obtain ⟨hx, hb, hml, hown, hts, hnl, hK, hAd, hSt, hR⟩ := hC
  unfold zo_reti at ho
  split at ho
  · have h2 := Option.some.inj ho
    exact hr _ h2.symm pc H locs ls hP hS (Or.inr (Or.inl ⟨hrk, ⟨_, rfl⟩, hd⟩))
  · cases ho
def zo_retj : ZP := fun E k lo st M => match st with | [.long x] => some (.inl (some (.long x), M)) | _ => none
theorem zk_retj {mt : Nat → Option ZT} {cc : ByteArray} {own : String} {rk pc : Nat} (hrk : rk = 2) (hd : decode cc pc = .ok (.lreturn, 1)) : ZOK mt cc own rk pc (zo_retj) := by
  intro p l e R s m args below meth c nL D dA ad A cells slots Q d E hC hE k lo st M o ho hk hr H locs ls hP hS hL hlen
  obtain ⟨hx, hb, hml, hown, hts, hnl, hK, hAd, hSt, hR⟩ := hC
  unfold zo_retj at ho
  split at ho
  · have h2 := Option.some.inj ho
    exact hr _ h2.symm pc H locs ls hP hS (Or.inr (Or.inr (Or.inl ⟨hrk, ⟨_, rfl⟩, hd⟩)))
  · cases ho
def zo_retz : ZP := fun E k lo st M => match st with | [.int x] => zck (zb01 x) (some (.inl (some (.int x), M))) | _ => none
theorem zk_retz {mt : Nat → Option ZT} {cc : ByteArray} {own : String} {rk pc : Nat} (hrk : rk = 3) (hd : decode cc pc = .ok (.ireturn, 1)) : ZOK mt cc own rk pc (zo_retz) := by
  intro p l e R s m args below meth c nL D dA ad A cells slots Q d E hC hE k lo st M o ho hk hr H locs ls hP hS hL hlen
  obtain ⟨hx, hb, hml, hown, hts, hnl, hK, hAd, hSt, hR⟩ := hC
  unfold zo_retz at ho
  split at ho
  · obtain ⟨h1, ho⟩ := zck_some ho
    have h2 := Option.some.inj ho
    exact hr _ h2.symm pc H locs ls hP hS (Or.inr (Or.inr (Or.inr ⟨hrk, ⟨_, rfl, h1⟩, hd⟩)))
  · cases ho
