/-! methods that use the text constants or the static rows -/
def chF (x : Int32) : Int32 := bytF.getD x.toNatClampNeg 0 &&& 255
theorem vp_nneg {x : Int32} {n : Nat} (h : vp_in x n) : ¬ x < 0 := fun q => h (Or.inl q)
theorem vp_ltI {x : Int32} {n : Nat} (h : vp_in x n) (hn : n < 2 ^ 31) : x < Int32.ofNat n := by
  obtain ⟨j, hj, rfl⟩ := vp_in_of h hn
  exact nI_lt hj hn
def prWS (D : va_G) (ws : va_W) (tys : List (ClassId × FieldType)) (sz : Nat) (adK adV : Nat → Nat) (t0 t1 t2 : Nat) : State → Prop := fun U => prW D ws tys sz U ∧ ST adK adV t0 t1 t2 (va_A ws sz) U U.heap
theorem blWS {D : va_G} {ws : va_W} {tys : List (ClassId × FieldType)} {sz : Nat} {adK adV : Nat → Nat} {t0 t1 t2 : Nat} {av : List Value} : FrameBlind (va_Pc av (prWS D ws tys sz adK adV t0 t1 t2)) := fun a U g mk q => by
  obtain ⟨q0, ⟨q1, qP, qK, qD, qN⟩, qZ⟩ := q
  exact ⟨q0, ⟨q1, qP, va_K.moved (u := U) (U := U.calling g mk a) (Vm.Alike.refl U.vm) qK, qD, qN.same rfl⟩, ST.same (s := U) (U := U.calling g mk a) rfl qZ⟩
theorem preWVS {s : State} {H : Heap} {locs : List Loc} {D : va_G} {tys : List (ClassId × FieldType)} {wc : va_W} {A B : Nat → Prop} {b ci : Nat} {q : vw_C} {fs : List Value} {As : List Value} {adK adV : Nat → Nat} {t0 t1 t2 : Nat} (hK : va_K D vwCl tys s) (hN : NW s) (hZ : ST adK adV t0 t1 t2 A s s.heap) (hS : va_S A s.heap H locs) (hF : ∀ q, va_A wc H.size q → A q) (hP : va_P D vwCl wc H) (hD : va_D B wc) (hc : vwCl[ci]? = some q) (he : wc[0]? = some (b, .inr (ci, fs))) : PreV s H q.1 b (va_Pc (.ref b :: As) (prWS D wc tys H.size adK adV t0 t1 t2)) As :=
  ⟨blWS, va_recv hK hP hc he, fun U hU hW => ⟨rfl, ⟨by rw [hU], by rw [hU]; exact hP, va_K.moved hW.alike hK, hD.weaken (fun _ _ _ _ => trivial), hN.warm hW⟩, by rw [hU]; exact (ST.warm hW (hZ.kept (H1 := H) (fun a h1 h2 => hS.2.1 a h1 h2))).narrow hF⟩⟩
theorem Met.ofMS {l : Launch} {y : MethodName} {ws ws' : List Cond} {rm : Room} {av : List Value} {D : va_G} {wd : va_W} {tys : List (ClassId × FieldType)} {Qc : (Nat → Prop) → Array Value → State → Outcome → State → Prop} {cc : ByteArray} {maxL mc ms sz : Nat} {ret : Option FieldType} {nm ds own : String} {adK adV : Nat → Nat} {t0 t1 t2 : Nat}
    (hy : plainName own = true) (hyy : y = ⟨own, nm, ds⟩) (hw : ws = Cond.code y cc maxL ret :: ws') (hle : (lg_sl av).length ≤ maxL)
    (body : ∀ (p : Program) (e : Env) (s : State) (m : MethodId) (below : List Frame) (meth : Method) (c : Code) (A : Nat → Prop), MC cc maxL ret own ws p s m av.toArray meth c → (nm = "<init>" → meth.name = "<init>") → va_K D vwCl tys s → NW s → ST adK adV t0 t1 t2 A s s.heap → (∀ q, s.heap.size ≤ q → A q) → va_P D vwCl wd s.heap → va_D A wd → va_S A s.heap s.heap [] → ∀ ls : Array Slot, lv_has ls maxL (lv_args 0 av) → W p l e rm s m av.toArray below meth c s.heap [] 0 0 (MQ below (Qc A) av.toArray s mc ms A) (F0 m 0 ls [])) :
    Met l y ws rm (va_Pc av (prWS D wd tys sz adK adV t0 t1 t2)) (Qc (va_A wd sz)) mc ms (va_A wd sz) := by
  subst hyy
  refine Met.ofW (cc := cc) (maxL := maxL) (ret := ret) hy hw ?_
  intro p e s m args below meth c s₁ B hml hv
  obtain ⟨rfl, ⟨hsz, hP, hK, hD0, hN⟩, hZ⟩ := hv
  subst hsz
  rw [lg_entry_eq]
  exact body p e s m below meth c (va_A wd s.heap.size) ⟨B.exec, B.bytes, B.returns, hml, findClass_of_methodNamed B.named, atoms_spec (ws := ws) B.pre, B.notSynchronized⟩ (fun h => (name_of_methodNamed B.named B.method).1.trans h) hK hN hZ (fun q h => Or.inr h) hP (hD0.self (sz := s.heap.size)) va_S.rf _ (lv_entry av hle)
