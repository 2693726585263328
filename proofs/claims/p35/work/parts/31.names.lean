/-! ===== BEGIN words of one list among another's, by their places ===== -/
theorem goodIn_r {big : List Cond} (ws : List Cond) (ps : List Nat) (hp : ws = ps.filterMap (fun i => big[i]?)) (h : ws.all goodWord = true) : GoodIn big ws := by
  intro w hw
  have h1 := List.all_eq_true.mp h w hw
  rw [hp] at hw
  obtain ⟨i, -, hi⟩ := List.mem_filterMap.mp hw
  have hm : w ∈ big := by first | exact List.mem_of_getElem? hi | exact List.getElem?_mem hi
  exact ⟨hm, good_of_word h1⟩
theorem goodIn_app {big a b : List Cond} (ha : GoodIn big a) (hb : GoodIn big b) : GoodIn big (a ++ b) := fun w h => (List.mem_append.mp h).elim (ha w) (hb w)
theorem goodIn_ca {big a b : List Cond} {c : Cond} (ha : GoodIn big (c :: a)) (hb : GoodIn big b) : GoodIn big (c :: (a ++ b)) := fun w h => (List.mem_cons.mp h).elim (fun e => ha w (List.mem_cons.mpr (Or.inl e))) (fun h => (List.mem_append.mp h).elim (fun h => ha w (List.mem_cons.mpr (Or.inr h))) (hb w))
theorem goodIn_sub {big ws : List Cond} (hm : ∀ w ∈ ws, w ∈ big) (h : ws.all goodWord = true) : GoodIn big ws := fun w hw => ⟨hm w hw, good_of_word (List.all_eq_true.mp h w hw)⟩
/-! ===== END ===== -/

/-! ===== BEGIN exceptions that leave a method, and their catching by the caller (launches without stack traces) ===== -/
section VXA
/-! The laws vx_back, vx_callV, vx_callS, vx_callSW, vx_throw0, vx_throwS follow proofs of the library, with one case more: JvmDerived/Free/Laws.lean (Back.of_free), Shelf42/LK1.lean (callV, callS), Shelf/KitTraced.lean (throwNew0V, throwNewS). -/
/-- where a method has thrown q: the class by its name, the cell, what was written, the world -/
def vx_T (XC : String → State → State → Prop) (st : State) (q : Addr) (t : State) (mc ms : Nat) (free : Addr → Prop) : Prop :=
  ∃ (E : String) (ce : Cell) (L : List Loc), XC E st t ∧ t.heap[q]? = some ce ∧ ce.vm = .none ∧ st.vm.findClass E = some ce.cls ∧ st.WarmedH t.vm ∧ st.sameButNew ({ t with vm := st.vm } : State) L mc ms ∧ ∀ z ∈ L, free z.base
def vx_Q (Qc : Array Value → State → Outcome → State → Prop) (XC : String → State → State → Prop) (mc ms : Nat) (free : Addr → Prop) : Array Value → State → Outcome → State → Prop := fun a st o t =>
  (Qc a st o t ∧ ∃ L, FrameEnd st o t L mc ms ∧ ∀ q ∈ L, free q.base) ∨ ∃ q, o = .threw q ∧ vx_T XC st q t mc ms free
/-- a callee that returns or throws -/
def vx_Met (l : Launch) (y : MethodName) (ws : List Cond) (rm : Room) (Pc : Array Value → State → Prop) (Qc : Array Value → State → Outcome → State → Prop) (XC : String → State → State → Prop) (mc ms : Nat) (free : Addr → Prop) : Prop :=
  MetFree l y (headSpec ws rm) Pc (fun _ _ _ _ _ => True) (vx_Q Qc XC mc ms free)
def vx_Post (XC : String → State → State → Prop) (mc ms : Nat) (free : Addr → Prop) : Pt → Array Value → Addr → Pt → Prop := fun A a q B =>
  ∃ (g : JFrame) (mk : MethodId) (t : State) (L : List Loc) (E : String) (ce : Cell), B.U.heap = t.heap ∧ B.U.vm = t.vm ∧ XC E (A.U.calling g mk a) t ∧ t.heap[q]? = some ce ∧ ce.vm = .none ∧ A.U.vm.findClass E = some ce.cls ∧ B.locs = A.locs ++ L ∧ (∀ z ∈ L, free z.base) ∧ B.cells = A.cells + mc ∧ B.slots = A.slots + ms
def vx_Back (l : Launch) (R : Room) (p : Program) (e : Env) (below : List Frame) (s : State) (sargs : Array Value) (y : MethodName) (len W9 : Nat)
    (Pre : Pt → Array Value → Prop) (Post : Pt → Array Value → Option Value → Pt → Prop) (PostX : Pt → Array Value → Addr → Pt → Prop) : Prop :=
  ∀ (m : MethodId) (meth : Method) (c : Code) (A : Pt) (g : JFrame) (ig : Instr) (mk : MethodId) (a : Array Value),
    Stand p l e R s m sargs below meth c A.U A.locs A.cells A.slots → g.method = m → g.locals.size = c.maxLocals → decode c.code g.pc = .ok (ig, len) →
    2 * g.monitorRoom + (g.stack.map fun v => v.category).sum ≤ W9 → A.U.methodNamed? y = some mk → Pre A a →
    (∃ (v : Option Value) (B : Pt), Stand p l e R s m sargs below meth c B.U B.locs B.cells B.slots ∧ Post A a v B ∧
      Steps p.tables e below (doInvoke e (A.U.setTop g) [] mk a).1 (B.U.setTop { g with pc := g.pc + len, stack := v.toList ++ g.stack })) ∨
    (∃ (q : Addr) (B : Pt), Stand p l e R s m sargs below meth c B.U B.locs B.cells B.slots ∧ PostX A a q B ∧
      Steps p.tables e below (doInvoke e (A.U.setTop g) [] mk a).1 ((B.U.setTop g).pushFrame (.throwing q)))
section Payer
variable {l : Launch} {R : Room} {p : Program} {e : Env} {below : List Frame} {s : State} {sargs : Array Value} {y : MethodName} {len W9 : Nat}
theorem vx_back {ws : List Cond} {rm : Room} {Pc : Array Value → State → Prop} {Qc : Array Value → State → Outcome → State → Prop} {XC : String → State → State → Prop} {mc ms : Nat} {free : Addr → Prop} {bytes : ByteArray} {maxL : Nat} {ret : Option FieldType}
    (hM : vx_Met l y ws rm Pc Qc XC mc ms free) (hblind : FrameBlind Pc) (hrc : rm.cells = mc) (hrs : rm.slots = ms)
    (hframes : rm.frames + 1 ≤ R.frames) (hlocals : W9 + (maxL + 11) + rm.locals ≤ R.locals)
    (hws : ∀ w ∈ ws, ∀ a' U, s.WarmedH U.vm → w.before a' U = true) (hcode : Cond.code y bytes maxL ret ∈ ws) (hinit : ∀ a' U, s.WarmedH U.vm → (Cond.initialized y.cls).before a' U = true) :
    vx_Back l R p e below s sargs y len W9 (PreOf R mc ms Pc) (PostOf Qc mc ms free) (vx_Post XC mc ms free) := by
  intro m meth c A g ig mk a X hg hsize hdg hW hn hp
  have h1 : (headSpec ws rm).pre.before a A.U = true := atoms_intro fun w hw => hws w hw _ _ X.warmed
  have h2 : (Cond.code y bytes maxL ret).before a A.U = true := hws _ hcode _ _ X.warmed
  have h3 : (Cond.initialized y.cls).before a A.U = true := hinit _ _ X.warmed
  have h4 : A.cells + (headSpec ws rm).room.cells ≤ R.cells := by rw [show (headSpec ws rm).room.cells = mc from hrc]; exact hp.1
  have h5 : A.slots + (headSpec ws rm).room.slots ≤ R.slots := by rw [show (headSpec ws rm).room.slots = ms from hrs]; exact hp.2.1
  have hPc : Pc a (A.U.calling g mk a) := hblind _ _ _ _ hp.2.2
  obtain ⟨U, Ls, c0, s0⟩ := A
  dsimp only [Pt.U, Pt.locs, Pt.cells, Pt.slots] at h1 h2 h3 h4 h5 X hn hPc ⊢
  obtain ⟨methY, cY, hmY, hcY, -, hlY, -, -, -, -⟩ := Cond.code_spec hn h2
  obtain ⟨kY, hkY, -⟩ := className_of_methodNamed hn
  have hinitY : kY.init = .initialized := Cond.initialized_spec (findClass_of_methodNamed hn) hkY h3
  have h : At U g.method c below := by rw [hg]; exact X.here
  have hlocals9 : W9 + (maxL + 11) + (headSpec ws rm).room.locals ≤ R.locals := hlocals
  have happ : (headSpec ws rm).appliesLoose y e.platform (U.calling g mk a) = true :=
    Spec.appliesLoose_calling (g := g) h hdg hn hkY hinitY
      (X.room_calling (g := g) (R' := (headSpec ws rm).room) hsize hmY hcY hframes (by rw [hlY]; omega) h4 h5) h1
  obtain ⟨mid, hmid⟩ := h.above
  have hfr : (U.setTop g).frames = (.java g :: mid) ++ below := by rw [State.frames_setTop' g h.top, hmid]; rfl
  obtain ⟨o, s₂, hsteps, -, hend, hq⟩ := Steps.callFree hM p X.admits X.cas X.clock (acts := []) hfr happ hPc trivial
  have hq' : vx_Q Qc XC mc ms free a (U.calling g mk a) o s₂ := hq
  rw [State.frames_setTop' g h.top] at hend
  obtain ⟨g₀, hg0⟩ := Option.isSome_iff_exists.mp h.top
  obtain ⟨r, hr⟩ := State.topJava?_eq_some.mp hg0
  have hr' : (({ U with heap := s₂.heap, slotsUsed := s₂.slotsUsed } : State).setVm s₂.vm).frames = .java g₀ :: r := hr
  rcases hq' with ⟨hqc, L, hfe, hL⟩ | ⟨q, rfl, E, ce, L, hx, hce, hcv, hcl, hW₂, hsm, hL⟩
  · obtain ⟨⟨v, rfl⟩, hW₂, e2, q2, q3, q4, q5, q6⟩ := id hfe
    have e3 : s₂ = ({ (U.calling g mk a).setFrames s₂.frames with heap := s₂.heap, slotsUsed := s₂.slotsUsed } : State).setVm s₂.vm := by
      have : s₂ = ({ s₂ with vm := (U.calling g mk a).vm } : State).setVm s₂.vm := rfl
      rw [e2] at this
      exact this
    obtain ⟨c₂, i₂, len₂, hc₂, hd₂, hf₂⟩ := hend
    have hW' : U.WarmedH s₂.vm := hW₂
    have hcc : c₂ = c := by
      have h1 : s₂.code? g.method = U.code? g.method := by
        rw [State.code?_eq, State.code?_eq, hW'.alike.method?]
      exact Option.some.inj (hc₂.symm.trans (h1.trans h.code))
    subst hcc
    have hlen : len₂ = len := by rw [hdg] at hd₂; cases hd₂; rfl
    subst hlen
    have hs₂ : s₂ = (({ U with heap := s₂.heap, slotsUsed := s₂.slotsUsed } : State).setVm s₂.vm).setTop { g with pc := g.pc + len₂, stack := v.toList ++ g.stack } := by
      refine e3.trans ?_
      rw [hf₂, State.calling_eq h.top, State.setFrames_setFrames, State.setTop_of_frames _ hr', hr]
      rfl
    have hsame : U.sameButNew ({ U with heap := s₂.heap, slotsUsed := s₂.slotsUsed } : State) L mc ms := by
      refine ⟨?_, q2, q3, q4, q5, q6⟩
      obtain ⟨t, ht, -⟩ := State.frames_cons hr
      show ({ U with heap := s₂.heap, slotsUsed := s₂.slotsUsed } : State) = { U.setFrames U.frames with heap := s₂.heap, slotsUsed := s₂.slotsUsed }
      rw [State.setFrames_self ht]
    subst hg
    refine Or.inl ⟨v, ⟨(({ U with heap := s₂.heap, slotsUsed := s₂.slotsUsed } : State).setVm s₂.vm), Ls ++ L, c0 + mc, s0 + ms⟩,
      ⟨X.admits, X.cas, X.clock, X.frames, X.room, X.hears, X.method, X.code, (X.here.setHeapUsed s₂.heap s₂.slotsUsed).setVm hW'.alike, X.tail, State.WarmedH.trans X.warmed hW', X.limits, X.bytes, X.same.trans (hsame.setVm s.vm)⟩,
      ⟨g, mk, s₂, L, rfl, rfl, hqc, rfl, hL, rfl, rfl⟩, ?_⟩
    show Steps p.tables e below _ ((({ U with heap := s₂.heap, slotsUsed := s₂.slotsUsed } : State).setVm s₂.vm).setTop { g with pc := g.pc + len₂, stack := v.toList ++ g.stack })
    rw [← hs₂]
    exact hsteps
  · obtain ⟨e2, q2, q3, q4, q5, q6⟩ := id hsm
    have e3 : s₂ = ({ (U.calling g mk a).setFrames s₂.frames with heap := s₂.heap, slotsUsed := s₂.slotsUsed } : State).setVm s₂.vm := by
      have : s₂ = ({ s₂ with vm := (U.calling g mk a).vm } : State).setVm s₂.vm := rfl
      rw [e2] at this
      exact this
    have hf₂ : s₂.frames = .throwing q :: .java g :: U.frames.tail := hend
    have hW' : U.WarmedH s₂.vm := hW₂
    have hs₂ : s₂ = ((({ U with heap := s₂.heap, slotsUsed := s₂.slotsUsed } : State).setVm s₂.vm).setTop g).pushFrame (.throwing q) := by
      refine e3.trans ?_
      rw [hf₂, State.calling_eq h.top, State.setFrames_setFrames, State.pushFrame, State.frames_setTop _ hr', State.setTop_of_frames _ hr', State.setFrames_setFrames, hr]
      rfl
    have hsame : U.sameButNew ({ U with heap := s₂.heap, slotsUsed := s₂.slotsUsed } : State) L mc ms := by
      refine ⟨?_, q2, q3, q4, q5, q6⟩
      obtain ⟨t, ht, -⟩ := State.frames_cons hr
      show ({ U with heap := s₂.heap, slotsUsed := s₂.slotsUsed } : State) = { U.setFrames U.frames with heap := s₂.heap, slotsUsed := s₂.slotsUsed }
      rw [State.setFrames_self ht]
    subst hg
    refine Or.inr ⟨q, ⟨(({ U with heap := s₂.heap, slotsUsed := s₂.slotsUsed } : State).setVm s₂.vm), Ls ++ L, c0 + mc, s0 + ms⟩,
      ⟨X.admits, X.cas, X.clock, X.frames, X.room, X.hears, X.method, X.code, (X.here.setHeapUsed s₂.heap s₂.slotsUsed).setVm hW'.alike, X.tail, State.WarmedH.trans X.warmed hW', X.limits, X.bytes, X.same.trans (hsame.setVm s.vm)⟩,
      ⟨g, mk, s₂, L, E, ce, rfl, rfl, hx, hce, hcv, hcl, rfl, hL, rfl, rfl⟩, ?_⟩
    show Steps p.tables e below _ (((({ U with heap := s₂.heap, slotsUsed := s₂.slotsUsed } : State).setVm s₂.vm).setTop g).pushFrame (.throwing q))
    rw [← hs₂]
    exact hsteps
end Payer
section Calls
variable {p : Program} {l : Launch} {e : Env} {R : Room} {s : State} {m : MethodId} {args : Array Value} {below : List Frame} {meth : Method} {c : Code} {T : State} {locs : List Loc} {cells slots : Nat}
theorem vx_callV (X : Stand p l e R s m args below meth c T locs cells slots) (hexec : p.tables.exec = Jvm.exec) {own C : String} {index : Nat} {y : MethodName} {bytes : ByteArray} {maxL : Nat} {ret : Option FieldType}
    (hown : s.vm.findClass own = some m.cls) (hlink : (Cond.methodLink own index y).before args s = true) (hinst : (Cond.instanceMethod y).before args s = true) (hsel : (Cond.selects C y y).before args s = true)
    (hcode : (Cond.code y bytes maxL ret).before args s = true) (hy : y.cls ≠ "java/lang/invoke/MethodHandle" ∧ y.cls ≠ "java/lang/invoke/VarHandle")
    {W9 : Nat} {Pre : Pt → Array Value → Prop} {Post : Pt → Array Value → Option Value → Pt → Prop} {PostX : Pt → Array Value → Addr → Pt → Prop} (hK : vx_Back l R p e below s args y 3 W9 Pre Post PostX)
    {b : Addr} {cellB : Cell} (hcell : T.heap[b]? = some cellB) (hobj : cellB.vm.isStatics = false) (hcls : s.vm.findClass C = some cellB.cls)
    {g : JFrame} (hg : g.method = m) (hsize : g.locals.size = c.maxLocals) {argsL rest : List Value} (hlen : ∀ sig, parseMethodDescriptor y.desc = some sig → argsL.length = sig.parameters.length)
    (hstack : g.stack = argsL.reverse ++ .ref b :: rest) (hW : 2 * g.monitorRoom + (rest.map fun v => v.category).sum ≤ W9) (hdg : decode c.code g.pc = .ok (.invokevirtual index, 3))
    (hpre : ∀ vm₁, s.WarmedH vm₁ → Pre ⟨T.setVm vm₁, locs, cells, slots⟩ (Value.ref b :: argsL).toArray) :
    (∃ (v : Option Value) (vm₁ : Vm) (B : Pt), s.WarmedH vm₁ ∧ Stand p l e R s m args below meth c B.U B.locs B.cells B.slots ∧ Post ⟨T.setVm vm₁, locs, cells, slots⟩ (Value.ref b :: argsL).toArray v B ∧
      ∀ target, Steps p.tables e below (B.U.setTop { g with pc := g.pc + 3, stack := v.toList ++ rest }) target → Steps p.tables e below (T.setTop g) target) ∨
    (∃ (q : Addr) (vm₁ : Vm) (B : Pt), s.WarmedH vm₁ ∧ Stand p l e R s m args below meth c B.U B.locs B.cells B.slots ∧ PostX ⟨T.setVm vm₁, locs, cells, slots⟩ (Value.ref b :: argsL).toArray q B ∧
      Steps p.tables e below (T.setTop g) ((B.U.setTop { g with stack := rest }).pushFrame (.throwing q))) := by
  obtain ⟨mk, methM, hnamed, hmethM, hstM, habM⟩ := Cond.instanceMethod_spec hinst
  obtain ⟨methM', cM, hmethM', -, -, -, -, -, -, hsigM⟩ := Cond.code_spec hnamed hcode
  cases hmethM.symm.trans hmethM'
  obtain ⟨c2, r2, m2, q1, q2, q3, q4, kP, hkP, hkPi⟩ := Cond.selects_spec hsel
  cases hcls.symm.trans q1
  cases (State.methodFound?_of_named hnamed hy).symm.trans q2
  cases hnamed.symm.trans q3
  have hselP : selectMethod e.platform s.vm cellB.cls mk = .method mk := by rw [Launch.admits_selectMethod X.admits]; exact q4
  obtain ⟨vm₁, X₁, hstep₁⟩ := X.invokevirtual hexec hown hlink hnamed hmethM hstM hkP hkPi hy (a := b) (cell := cellB) hcell
    (fun z h => by rw [h] at hobj; cases hobj) hselP hmethM habM hkP hkPi (g := g) hg (argsL := argsL) (rest := rest) (hlen _ hsigM) hstack hdg
  rcases hK m meth c ⟨T.setVm vm₁, locs, cells, slots⟩ { g with stack := rest } (.invokevirtual index) mk (Value.ref b :: argsL).toArray X₁ hg hsize hdg hW (X₁.named hnamed) (hpre vm₁ X₁.warmed) with ⟨v, B, X', hpost, hsteps⟩ | ⟨q, B, X', hpost, hsteps⟩
  · exact Or.inl ⟨v, vm₁, B, X₁.warmed, X', hpost, fun target h => hstep₁ _ fun acts => by rw [doInvoke_state]; exact hsteps.trans h⟩
  · exact Or.inr ⟨q, vm₁, B, X₁.warmed, X', hpost, hstep₁ _ fun acts => by rw [doInvoke_state]; exact hsteps⟩
theorem vx_callS (X : Stand p l e R s m args below meth c T locs cells slots) (hexec : p.tables.exec = Jvm.exec) {own : String} {index : Nat} {y : MethodName} {bytes : ByteArray} {maxL : Nat} {ret : Option FieldType}
    (hown : s.vm.findClass own = some m.cls) (hlink : (Cond.methodLink own index y).before args s = true) (hstat : (Cond.static y).before args s = true) (hinit : (Cond.initialized y.cls).before args s = true)
    (hcode : (Cond.code y bytes maxL ret).before args s = true) (hy : y.cls ≠ "java/lang/invoke/MethodHandle" ∧ y.cls ≠ "java/lang/invoke/VarHandle")
    {W9 : Nat} {Pre : Pt → Array Value → Prop} {Post : Pt → Array Value → Option Value → Pt → Prop} {PostX : Pt → Array Value → Addr → Pt → Prop} (hK : vx_Back l R p e below s args y 3 W9 Pre Post PostX)
    {g : JFrame} (hg : g.method = m) (hsize : g.locals.size = c.maxLocals) {argsL rest : List Value} (hlen : ∀ sig, parseMethodDescriptor y.desc = some sig → argsL.length = sig.parameters.length)
    (hstack : g.stack = argsL.reverse ++ rest) (hW : 2 * g.monitorRoom + (rest.map fun v => v.category).sum ≤ W9) (hdg : decode c.code g.pc = .ok (.invokestatic index, 3))
    (hpre : ∀ vm₁, s.WarmedH vm₁ → Pre ⟨T.setVm vm₁, locs, cells, slots⟩ argsL.toArray) :
    (∃ (v : Option Value) (vm₁ : Vm) (B : Pt), s.WarmedH vm₁ ∧ Stand p l e R s m args below meth c B.U B.locs B.cells B.slots ∧ Post ⟨T.setVm vm₁, locs, cells, slots⟩ argsL.toArray v B ∧
      ∀ target, Steps p.tables e below (B.U.setTop { g with pc := g.pc + 3, stack := v.toList ++ rest }) target → Steps p.tables e below (T.setTop g) target) ∨
    (∃ (q : Addr) (vm₁ : Vm) (B : Pt), s.WarmedH vm₁ ∧ Stand p l e R s m args below meth c B.U B.locs B.cells B.slots ∧ PostX ⟨T.setVm vm₁, locs, cells, slots⟩ argsL.toArray q B ∧
      Steps p.tables e below (T.setTop g) ((B.U.setTop { g with stack := rest }).pushFrame (.throwing q))) := by
  obtain ⟨mk, hnamed⟩ := Cond.code_named hcode
  obtain ⟨methM, cM, hmethM, -, -, -, -, -, -, hsigM⟩ := Cond.code_spec hnamed hcode
  have hstatic : methM.isStatic = true := Cond.static_spec hnamed hmethM hstat
  obtain ⟨kP, hkP, -⟩ := className_of_methodNamed hnamed
  have hinitP : kP.init = .initialized := Cond.initialized_spec (findClass_of_methodNamed hnamed) hkP hinit
  obtain ⟨vm₁, X₁, hstep₁⟩ := X.invokestatic hexec hown hlink hnamed hmethM hstatic hkP hinitP hy (g := g) hg (argsL := argsL) (rest := rest) (hlen _ hsigM) hstack hdg
  rcases hK m meth c ⟨T.setVm vm₁, locs, cells, slots⟩ { g with stack := rest } (.invokestatic index) mk argsL.toArray X₁ hg hsize hdg hW (X₁.named hnamed) (hpre vm₁ X₁.warmed) with ⟨v, B, X', hpost, hsteps⟩ | ⟨q, B, X', hpost, hsteps⟩
  · exact Or.inl ⟨v, vm₁, B, X₁.warmed, X', hpost, fun target h => hstep₁ _ fun acts => by rw [doInvoke_state]; exact hsteps.trans h⟩
  · exact Or.inr ⟨q, vm₁, B, X₁.warmed, X', hpost, hstep₁ _ fun acts => by rw [doInvoke_state]; exact hsteps⟩
end Calls
theorem vx_cls {s : State} {T : State} {vm₁ : Vm} {E : String} {k : ClassId} (hW : s.WarmedH vm₁) (h : (T.setVm vm₁).vm.findClass E = some k) : s.vm.findClass E = some k := by
  have h1 : vm₁.findClass E = some k := h
  rw [hW.alike.findClass] at h1
  exact h1
/-- the method's frame g, with q thrown over it -/
def vx_W (p : Program) (l : Launch) (e : Env) (R : Room) (s : State) (m : MethodId) (args : Array Value) (below : List Frame) (meth : Method) (c : Code) (H : Heap) (locs : List Loc) (cells slots : Nat) (Q : State → Prop) (g : JFrame) (q : Addr) : Prop :=
  ∀ T : State, T.heap = H → Stand p l e R s m args below meth c T locs cells slots → ∃ t, Steps p.tables e below ((T.setTop g).pushFrame (.throwing q)) t ∧ Q t
def vx_Run (p : Program) (l : Launch) (e : Env) (R : Room) (s : State) (m : MethodId) (args : Array Value) (below : List Frame) (meth : Method) (c : Code) (H : Heap) (locs : List Loc) (cells slots mc ms : Nat) (g : JFrame) (rest : List Value) (Qa : State → Outcome → State → Prop) (XC : String → State → State → Prop) (free : Addr → Prop) : Prop :=
  ∀ T : State, T.heap = H → Stand p l e R s m args below meth c T locs cells slots →
    (∃ (v : Option Value) (st₀ t T' : State) (L : List Loc), st₀.heap = H ∧ Stand p l e R s m args below meth c T' (locs ++ L) (cells + mc) (slots + ms) ∧ (∀ q ∈ L, free q.base) ∧ T'.heap = t.heap ∧ T'.vm = t.vm ∧ Qa st₀ (.returned v) t ∧
      Goes p e below T g T' { g with pc := g.pc + 3, stack := v.toList ++ rest }) ∨
    (∃ (q : Addr) (st₀ t T' : State) (L : List Loc) (E : String) (ce : Cell), st₀.heap = H ∧ Stand p l e R s m args below meth c T' (locs ++ L) (cells + mc) (slots + ms) ∧ (∀ z ∈ L, free z.base) ∧ T'.heap = t.heap ∧ T'.vm = t.vm ∧ XC E st₀ t ∧ t.heap[q]? = some ce ∧ ce.vm = .none ∧ s.vm.findClass E = some ce.cls ∧
      Steps p.tables e below (T.setTop g) ((T'.setTop { g with stack := rest }).pushFrame (.throwing q)))
def vx_X {S : Type} (px : S → Prop) (B : String → S → State → Prop) (A : Nat → Prop) : String → State → State → Prop := fun E st t => ∃ u : S, px u ∧ B E u t ∧ va_F A st t
section Runs
variable {p : Program} {l : Launch} {e : Env} {R : Room} {s : State} {m : MethodId} {args : Array Value} {below : List Frame} {meth : Method} {c : Code} {H : Heap} {locs : List Loc} {cells slots : Nat}
variable {y : MethodName} {bytes cc : ByteArray} {maxL nL mc ms n index : Nat} {ret : Option FieldType} {ws : List Cond} {rm : Room} {Pc : Array Value → State → Prop} {Qc : Array Value → State → Outcome → State → Prop} {XC : String → State → State → Prop} {free : Addr → Prop} {Ts : List Cond} {own C : String} {b : Addr} {As rest : List Value} {g : JFrame}
theorem vx_callBack (cb : CallB R s args own index y bytes maxL ret ws rm mc ms n) (hM : vx_Met l y ws rm Pc Qc XC mc ms free) (hbl : FrameBlind Pc) : vx_Back l R p e below s args y 3 8 (PreOf R mc ms Pc) (PostOf Qc mc ms free) (vx_Post XC mc ms free) := by
  obtain ⟨hrc, hrs, hfr, hlo, hws, hcw, -, hini, -⟩ := cb
  exact vx_back (bytes := bytes) (maxL := maxL) (ret := ret) hM hbl hrc hrs hfr hlo hws hcw (fun a' U hW => word_at hW (Or.inl (by first | rfl | simp [Cond.onTables, Cond.keeps, Cond.steady])) hini)
theorem vx_runV (S : CallFix p m c cc nL s args Ts own) (hM : vx_Met l y ws rm Pc Qc XC mc ms free) (cw : CallW R s args own C index y bytes maxL ret ws rm mc ms n) (hp : PreV s H C b Pc As)
    (hg : g.method = m) (hn : As.length = n) (hsize : g.locals.size = nL) (hstack : g.stack = As.reverse ++ .ref b :: rest) (hW : 2 * g.monitorRoom + (rest.map fun v => v.category).sum ≤ 8) (hdg : decode cc g.pc = .ok (.invokevirtual index, 3)) (hf : cells + mc ≤ R.cells ∧ slots + ms ≤ R.slots) :
    vx_Run p l e R s m args below meth c H locs cells slots mc ms g rest (Qc (Value.ref b :: As).toArray) XC free := by
  have hK : vx_Back l R p e below s args y 3 8 (PreOf R mc ms Pc) (PostOf Qc mc ms free) (vx_Post XC mc ms free) := vx_callBack cw.1 hM hp.1
  obtain ⟨⟨-, -, -, -, -, -, hcode, -, hy, hlen, hl⟩, hin, hse⟩ := cw
  obtain ⟨hx, hb, hml, ho, -⟩ := S
  obtain ⟨-, ⟨cellB, hcB, hoB, hclB⟩, hPc⟩ := hp
  intro T hT X
  rcases vx_callV X hx (C := C) (bytes := bytes) (maxL := maxL) (ret := ret) ho hl hin hse hcode hy hK (by rw [hT]; exact hcB) hoB hclB hg (hsize.trans hml.symm) (argsL := As) (rest := rest) (fun sig h => hn.trans (hlen sig h)) hstack hW (by rw [hb]; exact hdg)
    (fun vm₁ hW₁ => ⟨hf.1, hf.2, hPc (T.setVm vm₁) hT hW₁⟩) with ⟨v, vm₁, ⟨U', l2, c2, s2⟩, hW₁, X', ⟨g', mk, t, L, e1, e2, hq, h1, hL, h2, h3⟩, st⟩ | ⟨q, vm₁, ⟨U', l2, c2, s2⟩, hW₁, X', ⟨g', mk, t, L, E, ce, e1, e2, hq, hce, hcv, hcl, h1, hL, h2, h3⟩, st⟩
  · dsimp only [Pt.U, Pt.locs, Pt.cells, Pt.slots] at X' e1 e2 h1 h2 h3 st
    subst h1; subst h2; subst h3
    exact Or.inl ⟨v, (T.setVm vm₁).calling g' mk (Value.ref b :: As).toArray, t, U', L, hT, X', hL, e1, e2, hq, st⟩
  · dsimp only [Pt.U, Pt.locs, Pt.cells, Pt.slots] at X' e1 e2 h1 h2 h3 st hcl
    subst h1; subst h2; subst h3
    exact Or.inr ⟨q, (T.setVm vm₁).calling g' mk (Value.ref b :: As).toArray, t, U', L, E, ce, hT, X', hL, e1, e2, hq, hce, hcv, vx_cls hW₁ hcl, st⟩
theorem vx_runS (S : CallFix p m c cc nL s args Ts own) (hM : vx_Met l y ws rm Pc Qc XC mc ms free) (cw : CallB R s args own index y bytes maxL ret ws rm mc ms n ∧ (Cond.static y).before args s = true) (hp : PreS s H Pc As)
    (hg : g.method = m) (hn : As.length = n) (hsize : g.locals.size = nL) (hstack : g.stack = As.reverse ++ rest) (hW : 2 * g.monitorRoom + (rest.map fun v => v.category).sum ≤ 8) (hdg : decode cc g.pc = .ok (.invokestatic index, 3)) (hf : cells + mc ≤ R.cells ∧ slots + ms ≤ R.slots) :
    vx_Run p l e R s m args below meth c H locs cells slots mc ms g rest (Qc As.toArray) XC free := by
  have hK : vx_Back l R p e below s args y 3 8 (PreOf R mc ms Pc) (PostOf Qc mc ms free) (vx_Post XC mc ms free) := vx_callBack cw.1 hM hp.1
  obtain ⟨⟨-, -, -, -, -, -, hcode, hini, hy, hlen, hl⟩, hstt⟩ := cw
  obtain ⟨hx, hb, hml, ho, -⟩ := S
  intro T hT X
  rcases vx_callS X hx (bytes := bytes) (maxL := maxL) (ret := ret) ho hl hstt hini hcode hy hK hg (hsize.trans hml.symm) (argsL := As) (rest := rest) (fun sig h => hn.trans (hlen sig h)) hstack hW (by rw [hb]; exact hdg)
    (fun vm₁ hW₁ => ⟨hf.1, hf.2, hp.2 (T.setVm vm₁) hT hW₁⟩) with ⟨v, vm₁, ⟨U', l2, c2, s2⟩, hW₁, X', ⟨g', mk, t, L, e1, e2, hq, h1, hL, h2, h3⟩, st⟩ | ⟨q, vm₁, ⟨U', l2, c2, s2⟩, hW₁, X', ⟨g', mk, t, L, E, ce, e1, e2, hq, hce, hcv, hcl, h1, hL, h2, h3⟩, st⟩
  · dsimp only [Pt.U, Pt.locs, Pt.cells, Pt.slots] at X' e1 e2 h1 h2 h3 st
    subst h1; subst h2; subst h3
    exact Or.inl ⟨v, (T.setVm vm₁).calling g' mk As.toArray, t, U', L, hT, X', hL, e1, e2, hq, st⟩
  · dsimp only [Pt.U, Pt.locs, Pt.cells, Pt.slots] at X' e1 e2 h1 h2 h3 st hcl
    subst h1; subst h2; subst h3
    exact Or.inr ⟨q, (T.setVm vm₁).calling g' mk As.toArray, t, U', L, E, ce, hT, X', hL, e1, e2, hq, hce, hcv, vx_cls hW₁ hcl, st⟩
end Runs
section Rows
variable {p : Program} {l : Launch} {e : Env} {R : Room} {s : State} {m : MethodId} {args : Array Value} {below : List Frame} {meth : Method} {c : Code} {H : Heap} {locs : List Loc} {cells slots : Nat} {Q : State → Prop}
variable {mc ms : Nat} {free : Addr → Prop} {A0 A1 : Nat → Prop} {H0 : Heap} {a : Array Value} {pc : Nat} {ls : Array Slot} {st0 rest : List Value}
theorem vx_keep {st₀ t T' : State} {L : List Loc} (h0 : st₀.heap = H) (e1 : T'.heap = t.heap) (hS : va_S A0 H0 H locs) (hA : ∀ q, q < H.size → A1 q → A0 q) (hf : ∀ q, free q → A0 q) (hL : ∀ q ∈ L, free q.base) (hF : va_F A1 st₀ t) :
    H.size ≤ T'.heap.size ∧ (∀ q : Nat, q < H.size → ¬ A1 q → T'.heap[q]? = H[q]?) ∧ va_S A0 H0 T'.heap (locs ++ L) := by
  obtain ⟨hz, hk⟩ := hF
  rw [h0] at hz hk
  exact ⟨by rw [e1]; exact hz, fun q h1 h2 => by rw [e1]; exact hk q h1 h2,
    ⟨Nat.le_trans hS.1 (by rw [e1]; exact hz), fun q h1 h2 => by rw [e1, hk q (Nat.lt_of_lt_of_le h1 hS.1) (fun z => h2 (hA q (Nat.lt_of_lt_of_le h1 hS.1) z))]; exact hS.2.1 q h1 h2, fun q hq => by
      rcases List.mem_append.mp hq with h | h
      · exact hS.2.2 q h
      · exact hf _ (hL q h)⟩⟩
theorem vx_calli {S SX : Type} {post : Int32 → S → Prop} {px : SX → Prop} {B : S → State → Prop} {BX : String → SX → State → Prop} {AX : Nat → Prop} (hr : vx_Run p l e R s m args below meth c H locs cells slots mc ms (F0 m pc ls st0) rest (va_Qi post B A1 a) (vx_X px BX AX) free) (hS : va_S A0 H0 H locs) (hA : ∀ q, q < H.size → A1 q → A0 q) (hf : ∀ q, free q → A0 q) (hAX : ∀ q, q < H.size → AX q → A0 q)
    (kx : ∀ (E : String) (ce : Cell) (q9 : Addr) (u : SX) (t : State) (H1 : Heap) (locs1 : List Loc), t.heap = H1 → s.vm.Alike t.vm → px u → BX E u t → H.size ≤ H1.size → (∀ q : Nat, q < H.size → ¬ AX q → H1[q]? = H[q]?) → va_S A0 H0 H1 locs1 → H1[q9]? = some ce → ce.vm = .none → s.vm.findClass E = some ce.cls → vx_W p l e R s m args below meth c H1 locs1 (cells + mc) (slots + ms) Q (F0 m pc ls rest) q9)
    (kk : ∀ (r : Int32) (u : S) (t : State) (H1 : Heap) (locs1 : List Loc), t.heap = H1 → s.vm.Alike t.vm → post r u → B u t → H.size ≤ H1.size → (∀ q : Nat, q < H.size → ¬ A1 q → H1[q]? = H[q]?) → va_S A0 H0 H1 locs1 → W p l e R s m args below meth c H1 locs1 (cells + mc) (slots + ms) Q (F0 m (pc + 3) ls (.int r :: rest))) : W p l e R s m args below meth c H locs cells slots Q (F0 m pc ls st0) := by
  intro T hT X
  rcases hr T hT X with ⟨v, st₀, t, T', L, h0, X', hL, e1, e2, ⟨⟨r, u, hv, hp, hb⟩, hF⟩, st⟩ | ⟨q, st₀, t, T', L, E, ce, h0, X', hL, e1, e2, ⟨u, hp, hb, hF⟩, hce, hcv, hcl, st⟩
  · cases hv
    obtain ⟨k1, k2, k3⟩ := vx_keep h0 e1 hS hA hf hL hF
    obtain ⟨t2, a1, b1⟩ := kk r u t T'.heap (locs ++ L) e1.symm (by rw [← e2]; exact X'.warmed.alike) hp hb k1 k2 k3 T' rfl X'
    exact ⟨t2, st t2 a1, b1⟩
  · obtain ⟨k1, k2, k3⟩ := vx_keep h0 e1 hS hAX hf hL hF
    obtain ⟨t2, a1, b1⟩ := kx E ce q u t T'.heap (locs ++ L) e1.symm (by rw [← e2]; exact X'.warmed.alike) hp hb k1 k2 k3 (by rw [e1]; exact hce) hcv hcl T' rfl X'
    exact ⟨t2, st.trans a1, b1⟩
theorem vx_calll {S SX : Type} {post : Int64 → S → Prop} {px : SX → Prop} {B : S → State → Prop} {BX : String → SX → State → Prop} {AX : Nat → Prop} (hr : vx_Run p l e R s m args below meth c H locs cells slots mc ms (F0 m pc ls st0) rest (va_Ql post B A1 a) (vx_X px BX AX) free) (hS : va_S A0 H0 H locs) (hA : ∀ q, q < H.size → A1 q → A0 q) (hf : ∀ q, free q → A0 q) (hAX : ∀ q, q < H.size → AX q → A0 q)
    (kx : ∀ (E : String) (ce : Cell) (q9 : Addr) (u : SX) (t : State) (H1 : Heap) (locs1 : List Loc), t.heap = H1 → s.vm.Alike t.vm → px u → BX E u t → H.size ≤ H1.size → (∀ q : Nat, q < H.size → ¬ AX q → H1[q]? = H[q]?) → va_S A0 H0 H1 locs1 → H1[q9]? = some ce → ce.vm = .none → s.vm.findClass E = some ce.cls → vx_W p l e R s m args below meth c H1 locs1 (cells + mc) (slots + ms) Q (F0 m pc ls rest) q9)
    (kk : ∀ (r : Int64) (u : S) (t : State) (H1 : Heap) (locs1 : List Loc), t.heap = H1 → s.vm.Alike t.vm → post r u → B u t → H.size ≤ H1.size → (∀ q : Nat, q < H.size → ¬ A1 q → H1[q]? = H[q]?) → va_S A0 H0 H1 locs1 → W p l e R s m args below meth c H1 locs1 (cells + mc) (slots + ms) Q (F0 m (pc + 3) ls (.long r :: rest))) : W p l e R s m args below meth c H locs cells slots Q (F0 m pc ls st0) := by
  intro T hT X
  rcases hr T hT X with ⟨v, st₀, t, T', L, h0, X', hL, e1, e2, ⟨⟨r, u, hv, hp, hb⟩, hF⟩, st⟩ | ⟨q, st₀, t, T', L, E, ce, h0, X', hL, e1, e2, ⟨u, hp, hb, hF⟩, hce, hcv, hcl, st⟩
  · cases hv
    obtain ⟨k1, k2, k3⟩ := vx_keep h0 e1 hS hA hf hL hF
    obtain ⟨t2, a1, b1⟩ := kk r u t T'.heap (locs ++ L) e1.symm (by rw [← e2]; exact X'.warmed.alike) hp hb k1 k2 k3 T' rfl X'
    exact ⟨t2, st t2 a1, b1⟩
  · obtain ⟨k1, k2, k3⟩ := vx_keep h0 e1 hS hAX hf hL hF
    obtain ⟨t2, a1, b1⟩ := kx E ce q u t T'.heap (locs ++ L) e1.symm (by rw [← e2]; exact X'.warmed.alike) hp hb k1 k2 k3 (by rw [e1]; exact hce) hcv hcl T' rfl X'
    exact ⟨t2, st.trans a1, b1⟩
theorem vx_callf {S SX : Type} {post : UInt32 → S → Prop} {px : SX → Prop} {B : S → State → Prop} {BX : String → SX → State → Prop} {AX : Nat → Prop} (hr : vx_Run p l e R s m args below meth c H locs cells slots mc ms (F0 m pc ls st0) rest (va_Qf post B A1 a) (vx_X px BX AX) free) (hS : va_S A0 H0 H locs) (hA : ∀ q, q < H.size → A1 q → A0 q) (hf : ∀ q, free q → A0 q) (hAX : ∀ q, q < H.size → AX q → A0 q)
    (kx : ∀ (E : String) (ce : Cell) (q9 : Addr) (u : SX) (t : State) (H1 : Heap) (locs1 : List Loc), t.heap = H1 → s.vm.Alike t.vm → px u → BX E u t → H.size ≤ H1.size → (∀ q : Nat, q < H.size → ¬ AX q → H1[q]? = H[q]?) → va_S A0 H0 H1 locs1 → H1[q9]? = some ce → ce.vm = .none → s.vm.findClass E = some ce.cls → vx_W p l e R s m args below meth c H1 locs1 (cells + mc) (slots + ms) Q (F0 m pc ls rest) q9)
    (kk : ∀ (r : UInt32) (u : S) (t : State) (H1 : Heap) (locs1 : List Loc), t.heap = H1 → s.vm.Alike t.vm → post r u → B u t → H.size ≤ H1.size → (∀ q : Nat, q < H.size → ¬ A1 q → H1[q]? = H[q]?) → va_S A0 H0 H1 locs1 → W p l e R s m args below meth c H1 locs1 (cells + mc) (slots + ms) Q (F0 m (pc + 3) ls (.float r :: rest))) : W p l e R s m args below meth c H locs cells slots Q (F0 m pc ls st0) := by
  intro T hT X
  rcases hr T hT X with ⟨v, st₀, t, T', L, h0, X', hL, e1, e2, ⟨⟨r, u, hv, hp, hb⟩, hF⟩, st⟩ | ⟨q, st₀, t, T', L, E, ce, h0, X', hL, e1, e2, ⟨u, hp, hb, hF⟩, hce, hcv, hcl, st⟩
  · cases hv
    obtain ⟨k1, k2, k3⟩ := vx_keep h0 e1 hS hA hf hL hF
    obtain ⟨t2, a1, b1⟩ := kk r u t T'.heap (locs ++ L) e1.symm (by rw [← e2]; exact X'.warmed.alike) hp hb k1 k2 k3 T' rfl X'
    exact ⟨t2, st t2 a1, b1⟩
  · obtain ⟨k1, k2, k3⟩ := vx_keep h0 e1 hS hAX hf hL hF
    obtain ⟨t2, a1, b1⟩ := kx E ce q u t T'.heap (locs ++ L) e1.symm (by rw [← e2]; exact X'.warmed.alike) hp hb k1 k2 k3 (by rw [e1]; exact hce) hcv hcl T' rfl X'
    exact ⟨t2, st.trans a1, b1⟩
theorem vx_calld {S SX : Type} {post : UInt64 → S → Prop} {px : SX → Prop} {B : S → State → Prop} {BX : String → SX → State → Prop} {AX : Nat → Prop} (hr : vx_Run p l e R s m args below meth c H locs cells slots mc ms (F0 m pc ls st0) rest (va_Qd post B A1 a) (vx_X px BX AX) free) (hS : va_S A0 H0 H locs) (hA : ∀ q, q < H.size → A1 q → A0 q) (hf : ∀ q, free q → A0 q) (hAX : ∀ q, q < H.size → AX q → A0 q)
    (kx : ∀ (E : String) (ce : Cell) (q9 : Addr) (u : SX) (t : State) (H1 : Heap) (locs1 : List Loc), t.heap = H1 → s.vm.Alike t.vm → px u → BX E u t → H.size ≤ H1.size → (∀ q : Nat, q < H.size → ¬ AX q → H1[q]? = H[q]?) → va_S A0 H0 H1 locs1 → H1[q9]? = some ce → ce.vm = .none → s.vm.findClass E = some ce.cls → vx_W p l e R s m args below meth c H1 locs1 (cells + mc) (slots + ms) Q (F0 m pc ls rest) q9)
    (kk : ∀ (r : UInt64) (u : S) (t : State) (H1 : Heap) (locs1 : List Loc), t.heap = H1 → s.vm.Alike t.vm → post r u → B u t → H.size ≤ H1.size → (∀ q : Nat, q < H.size → ¬ A1 q → H1[q]? = H[q]?) → va_S A0 H0 H1 locs1 → W p l e R s m args below meth c H1 locs1 (cells + mc) (slots + ms) Q (F0 m (pc + 3) ls (.double r :: rest))) : W p l e R s m args below meth c H locs cells slots Q (F0 m pc ls st0) := by
  intro T hT X
  rcases hr T hT X with ⟨v, st₀, t, T', L, h0, X', hL, e1, e2, ⟨⟨r, u, hv, hp, hb⟩, hF⟩, st⟩ | ⟨q, st₀, t, T', L, E, ce, h0, X', hL, e1, e2, ⟨u, hp, hb, hF⟩, hce, hcv, hcl, st⟩
  · cases hv
    obtain ⟨k1, k2, k3⟩ := vx_keep h0 e1 hS hA hf hL hF
    obtain ⟨t2, a1, b1⟩ := kk r u t T'.heap (locs ++ L) e1.symm (by rw [← e2]; exact X'.warmed.alike) hp hb k1 k2 k3 T' rfl X'
    exact ⟨t2, st t2 a1, b1⟩
  · obtain ⟨k1, k2, k3⟩ := vx_keep h0 e1 hS hAX hf hL hF
    obtain ⟨t2, a1, b1⟩ := kx E ce q u t T'.heap (locs ++ L) e1.symm (by rw [← e2]; exact X'.warmed.alike) hp hb k1 k2 k3 (by rw [e1]; exact hce) hcv hcl T' rfl X'
    exact ⟨t2, st.trans a1, b1⟩
theorem vx_callv {S SX : Type} {post : S → Prop} {px : SX → Prop} {B : S → State → Prop} {BX : String → SX → State → Prop} {AX : Nat → Prop} (hr : vx_Run p l e R s m args below meth c H locs cells slots mc ms (F0 m pc ls st0) rest (va_Qv post B A1 a) (vx_X px BX AX) free) (hS : va_S A0 H0 H locs) (hA : ∀ q, q < H.size → A1 q → A0 q) (hf : ∀ q, free q → A0 q) (hAX : ∀ q, q < H.size → AX q → A0 q)
    (kx : ∀ (E : String) (ce : Cell) (q9 : Addr) (u : SX) (t : State) (H1 : Heap) (locs1 : List Loc), t.heap = H1 → s.vm.Alike t.vm → px u → BX E u t → H.size ≤ H1.size → (∀ q : Nat, q < H.size → ¬ AX q → H1[q]? = H[q]?) → va_S A0 H0 H1 locs1 → H1[q9]? = some ce → ce.vm = .none → s.vm.findClass E = some ce.cls → vx_W p l e R s m args below meth c H1 locs1 (cells + mc) (slots + ms) Q (F0 m pc ls rest) q9)
    (kk : ∀ (u : S) (t : State) (H1 : Heap) (locs1 : List Loc), t.heap = H1 → s.vm.Alike t.vm → post u → B u t → H.size ≤ H1.size → (∀ q : Nat, q < H.size → ¬ A1 q → H1[q]? = H[q]?) → va_S A0 H0 H1 locs1 → W p l e R s m args below meth c H1 locs1 (cells + mc) (slots + ms) Q (F0 m (pc + 3) ls (rest))) : W p l e R s m args below meth c H locs cells slots Q (F0 m pc ls st0) := by
  intro T hT X
  rcases hr T hT X with ⟨v, st₀, t, T', L, h0, X', hL, e1, e2, ⟨⟨u, hv, hp, hb⟩, hF⟩, st⟩ | ⟨q, st₀, t, T', L, E, ce, h0, X', hL, e1, e2, ⟨u, hp, hb, hF⟩, hce, hcv, hcl, st⟩
  · cases hv
    obtain ⟨k1, k2, k3⟩ := vx_keep h0 e1 hS hA hf hL hF
    obtain ⟨t2, a1, b1⟩ := kk u t T'.heap (locs ++ L) e1.symm (by rw [← e2]; exact X'.warmed.alike) hp hb k1 k2 k3 T' rfl X'
    exact ⟨t2, st t2 a1, b1⟩
  · obtain ⟨k1, k2, k3⟩ := vx_keep h0 e1 hS hAX hf hL hF
    obtain ⟨t2, a1, b1⟩ := kx E ce q u t T'.heap (locs ++ L) e1.symm (by rw [← e2]; exact X'.warmed.alike) hp hb k1 k2 k3 (by rw [e1]; exact hce) hcv hcl T' rfl X'
    exact ⟨t2, st.trans a1, b1⟩
/-- caught by the row x of this method's table; the rows ahead don't take it -/
theorem vx_catch {own name : String} {E : String} {ce : Cell} {q : Addr} (hown : s.vm.findClass own = some m.cls) (pre : List ExceptionTableEntry) (x : ExceptionTableEntry) (suf : List ExceptionTableEntry) (hsplit : c.exceptionTable.toList = pre ++ x :: suf)
    (hpass : ∀ z ∈ pre, covers z pc = false ∨ (z.catchType ≠ 0 ∧ ∃ nm : String, (Cond.classLink own z.catchType nm).before args s = true ∧ va_Nc E nm s)) (hx : covers x pc = true) (h0 : x.catchType ≠ 0)
    (hlink : (Cond.classLink own x.catchType name).before args s = true) (hcast : (Cond.castable E name).before args s = true) (hcell : H[q]? = some ce) (hv : ce.vm = .none) (hcl : s.vm.findClass E = some ce.cls)
    (kk : W p l e R s m args below meth c H locs cells slots Q (F0 m x.handlerPc ls [.ref q])) : vx_W p l e R s m args below meth c H locs cells slots Q (F0 m pc ls rest) q := by
  intro T hT X
  have hpl : e.platform.magicAccessors = ({} : Platform).magicAccessors := by rw [X.admits.platform]
  obtain ⟨c3, c4, hc3, hc4, hasg⟩ := Cond.castable_spec hcast
  cases Option.some.inj (hc3.symm.trans hcl)
  obtain ⟨c5, hc5, hcl5⟩ := Cond.classLink_spec hown hlink e.platform hpl
  cases Option.some.inj (hc4.symm.trans hc5)
  obtain ⟨vm', X', st⟩ := X.thenCaughtThrough q (g := F0 m pc ls rest) rfl (Steps.refl _) (by rw [hT]; exact hcell) (by rw [hv]; rfl) (by obtain ⟨k9, h9, -⟩ := Vm.findClass_spec hcl; exact ⟨k9, h9⟩) pre x suf hsplit
    (fun z hz => by
      rcases hpass z hz with h | ⟨hz0, nm, hl1, hn1⟩
      · exact Or.inl h
      · obtain ⟨c6, hc6, hcl6⟩ := Cond.classLink_spec hown hl1 e.platform hpl
        obtain ⟨a8, b8, h1, h2, h3⟩ := hn1
        cases Option.some.inj (h1.symm.trans hcl)
        cases Option.some.inj (h2.symm.trans hc6)
        exact Or.inr ⟨hz0, _, hcl6, h3⟩) hx (Or.inr ⟨h0, c4, hcl5, hasg⟩)
  obtain ⟨t, a1, b1⟩ := kk (T.setVm vm') hT X'
  exact ⟨t, st.trans a1, b1⟩
end Rows
section Ends
variable {p : Program} {l : Launch} {e : Env} {R : Room} {s : State} {m : MethodId} {args : Array Value} {below : List Frame} {meth : Method} {c : Code} {H : Heap} {locs : List Loc} {cells slots : Nat} {Q : State → Prop}
variable {mc ms : Nat} {free : Addr → Prop} {A0 A1 : Nat → Prop} {H0 : Heap} {a : Array Value} {ls : Array Slot} {st0 rest : List Value}
variable {Qc : Array Value → State → Outcome → State → Prop} {XC : String → State → State → Prop}
/-- what a body that may throw owes at its end -/
def vx_MQ (below : List Frame) (Qc : Array Value → State → Outcome → State → Prop) (XC : String → State → State → Prop) (a : Array Value) (s : State) (mc ms : Nat) (free : Addr → Prop) : State → Prop := fun t =>
  ∃ o, t.status = .running ∧ Ended t below o ∧ vx_Q Qc XC mc ms free a s o t
theorem vx_ret {g : JFrame} {mc ms : Nat} (k : W p l e R s m args below meth c H locs cells slots (MQ below Qc args s mc ms free) g) : W p l e R s m args below meth c H locs cells slots (vx_MQ below Qc XC args s mc ms free) g := by
  intro T hT X
  obtain ⟨t, a1, o, b1, b2, b3, b4⟩ := k T hT X
  exact ⟨t, a1, o, b1, b2, Or.inl ⟨b3, b4⟩⟩
/-- not caught here: it goes on to the caller -/
theorem vx_widen {g : JFrame} {q : Addr} {k n : Nat} (h1 : cells ≤ k) (h2 : slots ≤ n) (kk : vx_W p l e R s m args below meth c H locs k n Q g q) : vx_W p l e R s m args below meth c H locs cells slots Q g q := fun T hT X => kk T hT (stand_widen X h1 h2)
theorem vx_out {pc : Nat} {E : String} {ce : Cell} {q : Addr} {mc ms : Nat} (hout : ∀ x ∈ c.exceptionTable.toList, covers x pc = false) (hlocks : meth.locks = false) (hcell : H[q]? = some ce) (hv : ce.vm = .none) (hcl : s.vm.findClass E = some ce.cls)
    (hx : ∀ t : State, t.heap = H → s.vm.Alike t.vm → XC E s t) (hf : ∀ z ∈ locs, free z.base) (hc : cells ≤ mc) (hs : slots ≤ ms) :
    vx_W p l e R s m args below meth c H locs cells slots (vx_MQ below Qc XC args s mc ms free) (F0 m pc ls rest) q := by
  intro T hT X
  obtain ⟨st1, hrun, hend, hW, hsm⟩ := X.leaveThrown q (g := F0 m pc ls rest) rfl rfl rfl hout hlocks
  have hcell9 : (T.setFrames (.throwing q :: below)).heap[q]? = some ce := by
    show T.heap[q]? = some ce
    rw [hT]; exact hcell
  exact ⟨_, st1, .threw q, hrun, hend, Or.inr ⟨q, rfl, E, ce, locs, hx _ hT hW.alike, hcell9, hv, hcl, hW, hsm.mono hc hs, hf⟩⟩
theorem vx_frame {U : State} {k n : Nat} (h : s.sameButNew ({ U with vm := s.vm } : State) locs k n) : s.heap.size ≤ U.heap.size ∧ ∀ q : Nat, q < s.heap.size → (∀ z ∈ locs, z.base ≠ q) → U.heap[q]? = s.heap[q]? := by
  obtain ⟨-, h2, -, -, -, h6⟩ := h
  refine ⟨h2, fun q hq hz => ?_⟩
  obtain ⟨c9, e1, e2, e3, e4⟩ := h6 q _ (Array.getElem?_eq_getElem hq)
  have hs : c9.slots = (s.heap[q]).slots := Array.ext_getElem? fun i => e4 i fun hm => hz _ hm rfl
  have h9 : c9 = s.heap[q] := by
    rw [hs] at e2
    exact e2
  have e5 : U.heap[q]? = some c9 := e1
  rw [e5, h9, Array.getElem?_eq_getElem hq]
/-- the words of a throw but the four that speak of the heap -/
def vx_no (w : Cond) : Bool := decide (w ≠ .isRef (.static Bundle.tN "UNASSIGNED_STACK" Bundle.steD)) && decide (w ≠ .isRef (.static Bundle.tN "SUPPRESSED_SENTINEL" Bundle.listD)) && decide (w ≠ .laysStatic Bundle.tN "UNASSIGNED_STACK" Bundle.steD) && decide (w ≠ .laysStatic Bundle.tN "SUPPRESSED_SENTINEL" Bundle.listD)
def vx_at0 (own : String) (ic : Nat) (X : String) (names : List String) : List Cond := (Bundle.ownAtoms0 own ic X names).filter vx_no
def vx_atS (own : String) (ic : Nat) (X : String) (names : List String) : List Cond := (Bundle.ownAtoms own ic X names).filter vx_no
/-- a word that the tables alone decide, or a good one -/
def vx_ot (w : Cond) : Bool := w.onTables || goodWord w
theorem vx_ot_at {args a' : Array Value} {s U : State} {w : Cond} (hW : s.WarmedH U.vm) (hvm : s.vm = U.vm) (hg : vx_ot w = true) (h : w.before args s = true) : w.before a' U = true := by
  simp only [vx_ot, Bool.or_eq_true] at hg
  rcases hg with hg | hg
  · exact va_tabs hg hvm h
  · exact word_at hW (good_of_word hg) h
/-- a list's words: the good ones out of the method's own list, the others by premises of their own -/
theorem vx_hat {args : Array Value} {s : State} {L B : List Cond} (h1 : ∀ w ∈ L.filter goodWord, w.before args s = true) (h2 : ∀ w ∈ L.filter (fun w => !goodWord w), w ∈ B) (h3 : ∀ w ∈ B, w.before args s = true) : ∀ w ∈ L, w.before args s = true := by
  intro w hw
  by_cases g : goodWord w = true
  · exact h1 w (List.mem_filter.mpr ⟨hw, g⟩)
  · refine h3 w (h2 w (List.mem_filter.mpr ⟨hw, ?_⟩))
    show (!goodWord w) = true
    cases hgw : goodWord w
    · rfl
    · exact absurd hgw g
theorem vx_c {args : Array Value} {s : State} {w : Cond} {B : List Cond} (h : w.before args s = true) (t : ∀ w ∈ B, w.before args s = true) : ∀ w' ∈ w :: B, w'.before args s = true := fun w' h' => (List.mem_cons.mp h').elim (fun e => by rw [e]; exact h) (t w')
theorem vx_n {args : Array Value} {s : State} : ∀ w ∈ ([] : List Cond), w.before args s = true := fun _ h => nomatch h
theorem vx_own {args : Array Value} {s : State} {L : List Cond} (h1 : ∀ w ∈ L.filter vx_no, w.before args s = true)
    (hU : (Cond.isRef (.static Bundle.tN "UNASSIGNED_STACK" Bundle.steD)).before args s = true) (hN : (Cond.isRef (.static Bundle.tN "SUPPRESSED_SENTINEL" Bundle.listD)).before args s = true)
    (lU : (Cond.laysStatic Bundle.tN "UNASSIGNED_STACK" Bundle.steD).before args s = true) (lN : (Cond.laysStatic Bundle.tN "SUPPRESSED_SENTINEL" Bundle.listD).before args s = true) : ∀ w ∈ L, w.before args s = true := by
  intro w hw
  by_cases e1 : w = .isRef (.static Bundle.tN "UNASSIGNED_STACK" Bundle.steD)
  · rw [e1]; exact hU
  · by_cases e2 : w = .isRef (.static Bundle.tN "SUPPRESSED_SENTINEL" Bundle.listD)
    · rw [e2]; exact hN
    · by_cases e3 : w = .laysStatic Bundle.tN "UNASSIGNED_STACK" Bundle.steD
      · rw [e3]; exact lU
      · by_cases e4 : w = .laysStatic Bundle.tN "SUPPRESSED_SENTINEL" Bundle.listD
        · rw [e4]; exact lN
        · exact h1 w (List.mem_filter.mpr ⟨hw, by unfold vx_no; rw [decide_eq_true e1, decide_eq_true e2, decide_eq_true e3, decide_eq_true e4]; rfl⟩)
/-- where a static field lies, its class's statics cell in H -/
def vx_L (C n d : String) (A : Nat → Prop) (U : State) (H : Heap) : Prop := ∃ (c : ClassId) (k : Class) (i : Nat) (f : Field) (a : Nat) (cell : Cell), U.vm.findClass C = some c ∧ U.fieldFound? C n d = some (c, k, i, f) ∧ f.isStatic = true ∧ k.statics = some a ∧ H[a]? = some cell ∧ cell.vm.isStatics = true ∧ cell.cls = c ∧ f.slot < cell.slots.size ∧ k.staticTypes[f.slot]? = some f.type ∧ ¬ A a
theorem vx_L.moved {C n d : String} {A : Nat → Prop} {u U : State} {H : Heap} (hvm : u.vm.Alike U.vm) (h : vx_L C n d A u H) : vx_L C n d A U H := by
  obtain ⟨c, k, i, f, a, cell, h1, h2, h3, h4, h5, h6, h7, h8, h9, h10⟩ := h
  obtain ⟨k', hi', he⟩ := State.fieldFound?_setVm hvm h2
  exact ⟨c, k', i, f, a, cell, by rw [hvm.findClass]; exact h1, hi', h3, by rw [he]; exact h4, h5, h6, h7, h8, by rw [he]; exact h9, h10⟩
theorem vx_L.kept {C n d : String} {A : Nat → Prop} {U : State} {H H1 : Heap} (h : vx_L C n d A U H) (hq : ∀ a : Nat, a < H.size → ¬ A a → H1[a]? = H[a]?) : vx_L C n d A U H1 := by
  obtain ⟨c, k, i, f, a, cell, h1, h2, h3, h4, h5, h6, h7, h8, h9, h10⟩ := h
  exact ⟨c, k, i, f, a, cell, h1, h2, h3, h4, by rw [hq a (Array.getElem?_eq_some_iff.mp h5).1 h10]; exact h5, h6, h7, h8, h9, h10⟩
theorem vx_L.narrow {C n d : String} {A B : Nat → Prop} {U : State} {H : Heap} (h : vx_L C n d A U H) (hAB : ∀ q, B q → A q) : vx_L C n d B U H := by
  obtain ⟨c, k, i, f, a, cell, h1, h2, h3, h4, h5, h6, h7, h8, h9, h10⟩ := h
  exact ⟨c, k, i, f, a, cell, h1, h2, h3, h4, h5, h6, h7, h8, h9, fun z => h10 (hAB _ z)⟩
theorem vx_L.word {C n d : String} {A : Nat → Prop} {s : State} {args : Array Value} (h : vx_L C n d A s s.heap) : (Cond.laysStatic C n d).before args s = true := by
  obtain ⟨c, k, i, f, a, cell, h1, h2, h3, h4, h5, h6, h7, h8, h9, -⟩ := h
  show (Cond.laysStatic C n d).holds args s none s [] = true
  exact Cond.laysStatic_of h1 h2 h3 h4 h5 h6 h7 h8 h9
/-- .. and what it holds: null or some reference -/
def vx_Zq (C n d : String) (A : Nat → Prop) (U : State) (H : Heap) : Prop := va_Zq C n d A U H ∧ vx_L C n d A U H
theorem vx_Zq.moved {C n d : String} {A : Nat → Prop} {u U : State} {H : Heap} (hvm : u.vm.Alike U.vm) (h : vx_Zq C n d A u H) : vx_Zq C n d A U H := ⟨va_Zq.moved hvm h.1, vx_L.moved hvm h.2⟩
theorem vx_Zq.kept {C n d : String} {A : Nat → Prop} {U : State} {H H1 : Heap} (h : vx_Zq C n d A U H) (hq : ∀ a : Nat, a < H.size → ¬ A a → H1[a]? = H[a]?) : vx_Zq C n d A U H1 := ⟨va_Zq.kept h.1 hq, vx_L.kept h.2 hq⟩
theorem vx_Zq.narrow {C n d : String} {A B : Nat → Prop} {U : State} {H : Heap} (h : vx_Zq C n d A U H) (hAB : ∀ q, B q → A q) : vx_Zq C n d B U H := ⟨va_Zq.narrow h.1 hAB, vx_L.narrow h.2 hAB⟩
theorem vx_Zqof {args : Array Value} {s : State} {C n d : String} {A : Nat → Prop} (hl : (Cond.laysStatic C n d).before args s = true) (hini : (Cond.initialized C).before args s = true) (h : (Cond.isRef (.static C n d)).before args s = true) (hA : ∀ a : Nat, a < s.heap.size → ¬ A a) : vx_Zq C n d A s s.heap := by
  refine ⟨va_Zqof hl hini h hA, ?_⟩
  obtain ⟨c, k, i, f, a, cell, h1, h2, h3, h4, h5, h6, h7, h8, h9⟩ := Cond.laysStatic_spec hl
  exact ⟨c, k, i, f, a, cell, h1, h2, h3, h4, h5, h6, h7, h8, h9, hA a (Array.getElem?_eq_some_iff.mp h5).1⟩
theorem vx_isRef {C n d : String} {v : Value} {A : Nat → Prop} {s : State} {args : Array Value} (h : va_Z C n d v A s s.heap) (hv : v.isRef = true) : (Cond.isRef (.static C n d)).before args s = true := by
  obtain ⟨cf, kf, fi, f, a, cell, h1, h2, h3, h4, h5, h6, h7, -⟩ := h
  have he : (Term.static C n d).eval args s none [] s = some v := by
    simp [Term.eval, State.fieldNamed?, h1, h2, h4, h5, h6, h7]
  simp only [Cond.before, Cond.holds, Cond.value, he]
  cases v <;> simp_all [Value.isRef]
theorem vx_isRefq {C n d : String} {A : Nat → Prop} {s : State} {args : Array Value} (h : va_Zq C n d A s s.heap) : (Cond.isRef (.static C n d)).before args s = true := by
  rcases h with h | ⟨t, h⟩
  · exact vx_isRef h rfl
  · exact vx_isRef h rfl
/-- the same frame, seen from here: as if the method were called anew in this heap -/
theorem vx_rebase {T : State} (X : Stand p l e R s m args below meth c T locs cells slots) {R' : Room} (hf : R'.frames ≤ R.frames) (hl : R'.locals ≤ R.locals) (hc : cells + R'.cells ≤ R.cells) (hs : slots + R'.slots ≤ R.slots) :
    Stand p l e R' ((T.setVm s.vm).setFrames (.invoking m args :: below)) m args below meth c T [] 0 0 := by
  have htop : (T.setVm s.vm).topJava?.isSome := X.here.top
  have hF : ((T.setVm s.vm).setFrames (.invoking m args :: below)).frames = .invoking m args :: below := State.frames_setFrames _ (State.cur_lt_of_top htop)
  obtain ⟨g₀, hg0⟩ := Option.isSome_iff_exists.mp htop
  obtain ⟨r, hr⟩ := State.topJava?_eq_some.mp hg0
  have hl9 : e.platform.stackLimits (T.setVm s.vm).me = e.platform.stackLimits s.me := X.limits
  have hb9 : (T.setVm s.vm).me.stackBytes = s.me.stackBytes := X.bytes
  refine ⟨X.admits, X.cas, X.clock, hF, ?_, X.hears, X.method, X.code, X.here, X.tail, X.warmed, ?_, ?_, ?_⟩
  · have h := X.room
    have hU : ((T.setVm s.vm).setFrames (.invoking m args :: below)).localsInUse = s.localsInUse := by
      rw [State.localsInUse_invoking hF (meth := meth) (c := c) X.method X.code, State.localsInUse_invoking X.frames X.method X.code]
    simp only [State.hasRoom, Bool.and_eq_true, decide_eq_true_eq] at h ⊢
    obtain ⟨⟨⟨⟨h1, h2, h3, h4, h5, h6⟩, h7⟩, h8⟩, h9⟩ := h
    rw [X.frames, List.length_cons] at h2 h3
    have q1 := X.heapSize
    have q2 := X.used
    simp only [hF, hU, List.length_cons, State.stackLimits_setFrames, State.stackBytes_setFrames, hl9, hb9]
    refine ⟨⟨⟨⟨by omega, by omega, by omega, by omega, by omega, h6⟩, ?_⟩, ?_⟩, X.book⟩
    · show T.heap.size + R'.cells ≤ e.platform.maxCells
      omega
    · show T.slotsUsed + R'.slots ≤ e.platform.maxSlots
      omega
  · rw [State.stackLimits_setFrames]; rfl
  · rw [State.stackBytes_setFrames]; rfl
  · refine ⟨?_, Nat.le_refl _, Nat.le_refl _, ?_, ?_, fun a c9 h9 => ⟨c9, h9, rfl, rfl, fun _ _ => rfl⟩⟩
    · obtain ⟨t, ht, -⟩ := State.frames_cons hr
      show T.setVm s.vm = { ((T.setVm s.vm).setFrames (.invoking m args :: below)).setFrames (T.setVm s.vm).frames with heap := T.heap, slotsUsed := T.slotsUsed }
      rw [State.setFrames_setFrames, State.setFrames_self ht]
      rfl
    · show T.slotsUsed = T.slotsUsed + ((T.heap.toList.drop T.heap.size).map (·.slots.size)).sum
      rw [List.drop_eq_nil_of_le (Nat.le_of_eq Array.length_toList)]
      rfl
    · show ((T.heap.toList.drop T.heap.size).map (·.slots.size)).sum ≤ 0
      rw [List.drop_eq_nil_of_le (Nat.le_of_eq Array.length_toList)]
      exact Nat.le_refl _
/-- 'throw new E()': new; dup; invokespecial; athrow -/
theorem vx_throw0 {cc : ByteArray} {pc : Nat} (hexec : p.tables.exec = Jvm.exec) (hb : c.code = cc) (hl : l.stackTraces = false) {own cls : String} {names : List String} {ik ic mc ms : Nat} {A : Nat → Prop}
    (hown : s.vm.findClass own = some m.cls) (hcls : Bundle.fit cls = true) (hnames : ∀ n ∈ names, Bundle.fit n = true)
    (hk : (Cond.classLink own ik cls).before args s = true) (hini : (Cond.initialized cls).before args s = true) (hat : ∀ w ∈ vx_at0 own ic cls names, w.before args s = true)
    (hgood : ∀ w ∈ Cond.classLink own ik cls :: Cond.initialized cls :: vx_at0 own ic cls names, vx_ot w = true)
    (hU : vx_Zq Bundle.tN "UNASSIGNED_STACK" Bundle.steD A s s.heap) (hN : vx_Zq Bundle.tN "SUPPRESSED_SENTINEL" Bundle.listD A s s.heap) (hS : va_S A s.heap H locs) (hsize : ls.size = c.maxLocals)
    (d0 : decode cc pc = .ok (.new ik, 3)) (d3 : decode cc (pc + 3) = .ok (.dup, 1)) (d4 : decode cc (pc + 4) = .ok (.invokespecial ic, 3)) (d7 : decode cc (pc + 7) = .ok (.athrow, 1))
    (hout : ∀ x ∈ c.exceptionTable.toList, covers x (pc + 7) = false)
    (hRframes : names.length + 3 < R.frames) (hRlocals : (rest.map fun v => v.category).sum + (13 * (names.length + 1) + 42) ≤ R.locals) (hRcells : cells + 1 ≤ R.cells) (hRslots : slots + 6 ≤ R.slots) (hlocks : meth.locks = false)
    (hx : ∀ t : State, s.vm.Alike t.vm → H.size ≤ t.heap.size → (∀ q : Nat, q < H.size → t.heap[q]? = H[q]?) → XC cls s t)
    (hf : ∀ z ∈ locs, free z.base) (hc : cells + 1 ≤ mc) (hs : slots + 6 ≤ ms) :
    W p l e R s m args below meth c H locs cells slots (vx_MQ below Qc XC args s mc ms free) (F0 m pc ls rest) := by
  intro T hT X
  have htr : e.platform.stackTraces = false := (show e.platform.stackTraces = l.stackTraces by rw [X.admits.platform]).trans hl
  have Y := vx_rebase X (R' := { frames := R.frames, locals := R.locals, cells := 1, slots := 6 }) (Nat.le_refl _) (Nat.le_refl _) hRcells hRslots
  obtain ⟨s', hA⟩ : ∃ z, z = (T.setVm s.vm).setFrames (.invoking m args :: below) := ⟨_, rfl⟩
  rw [← hA] at Y
  have hvm : s'.vm = s.vm := by rw [hA]; rfl
  have hhp : s'.heap = H := by rw [hA]; exact hT
  have hW0 : s.WarmedH s'.vm := by rw [hvm]; exact State.WarmedH.refl s
  have hat' : ∀ w ∈ vx_at0 own ic cls names, w.before args s' = true := fun w hw => vx_ot_at hW0 hvm.symm (hgood w (List.mem_cons_of_mem _ (List.mem_cons_of_mem _ hw))) (hat w hw)
  have hk' : (Cond.classLink own ik cls).before args s' = true := vx_ot_at hW0 hvm.symm (hgood _ List.mem_cons_self) hk
  have hini' : (Cond.initialized cls).before args s' = true := vx_ot_at hW0 hvm.symm (hgood _ (List.mem_cons_of_mem _ List.mem_cons_self)) hini
  have hU' : vx_Zq Bundle.tN "UNASSIGNED_STACK" Bundle.steD A s' s'.heap := by rw [hhp]; exact vx_Zq.moved hW0.alike (hU.kept hS.2.1)
  have hN' : vx_Zq Bundle.tN "SUPPRESSED_SENTINEL" Bundle.listD A s' s'.heap := by rw [hhp]; exact vx_Zq.moved hW0.alike (hN.kept hS.2.1)
  have h : ∀ w ∈ Bundle.ownAtoms0 own ic cls names, w.before args s' = true := vx_own hat' (vx_isRefq hU'.1) (vx_isRefq hN'.1) hU'.2.word hN'.2.word
  have hown' : s'.vm.findClass own = some m.cls := by rw [hvm]; exact hown
  have hins : (Cond.instantiable cls 6).before args s' = true := h _ (by simp [Bundle.ownAtoms0])
  obtain ⟨vm₁, cX, kX, hfX, hkX, -, -, X₁, st1⟩ := Y.newCold hexec (own := own) (C := cls) (index := ik) (n := 6) hown' hk' hins hini'
    (g := F0 m pc ls rest) rfl (by rw [hb]; exact d0) (Nat.le_refl _) (Nat.le_refl _)
  generalize hT1 : (T.setVm vm₁).pushCell { cls := cX, slots := kX.instanceTypes.map defaultValue, vm := .none } = T1 at X₁ st1
  have hcat : (Value.ref T.heap.size).category = 1 := rfl
  have hcellA : T1.heap[T.heap.size]? = some (freshCell cX kX) := by rw [← hT1]; exact State.heap_pushCell_size _ _
  have d3' : decode c.code (pc + 3) = .ok (.dup, 1) := by rw [hb]; exact d3
  obtain ⟨U, hsteps, hrun, hend, hW, hsame, ce, hce, hO⟩ := X₁.ctorThrow0 hexec htr (own := own) (cls := cls) (names := names) (ic := ic) hown' hcls hnames h (fun x hx => nomatch hx) hfX hkX hcellA (by rw [hhp, hT]; exact Nat.le_refl _)
    (g := { method := m, pc := pc + 4, locals := ls, stack := .ref T.heap.size :: .ref T.heap.size :: rest, locked := none }) rfl hsize rfl rfl (rest := rest) rfl
    (by rw [hb]; exact d4) (by rw [hb]; exact d7) hout hRframes (by simp only [List.map_cons, List.sum_cons, hcat]; omega) hlocks
  obtain ⟨f1, f2⟩ := vx_frame hsame
  rw [hhp] at f1 f2
  have hWs : s.WarmedH U.vm := State.WarmedH.trans hW0 hW
  have hcl : s.vm.findClass cls = some ce.cls := by
    have h9 := hO.cls
    rw [hvm] at h9
    exact h9
  have hall : s.sameButNew ({ U with vm := s.vm } : State) locs mc ms := by
    subst hA
    obtain ⟨e1, e2⟩ := hsame
    rw [State.setFrames_setFrames] at e1
    have h2 : (T.setVm s.vm).sameButNew ({ U with vm := s.vm } : State) [] (0 + 1) (0 + 6) := ⟨e1, e2⟩
    have h3 := X.same.trans h2
    rw [List.append_nil] at h3
    exact h3.mono hc hs
  refine ⟨U, ?_, .threw T.heap.size, hrun, hend, Or.inr ⟨T.heap.size, rfl, cls, ce, locs, hx U hWs.alike f1 (fun q hq => f2 q hq (fun z hz => nomatch hz)), hce, hO.vm, hcl, hWs, hall, hf⟩⟩
  refine st1 _ ?_
  show Steps p.tables e below (T1.setTop { method := m, pc := pc + 3, locals := ls, stack := .ref T.heap.size :: rest, locked := none }) _
  jvm_step X₁.here [X₁.here.top, hexec, d3', Value.category]
  exact hsteps
/-- 'throw new E("text")': new; dup; ldc; invokespecial; athrow -/
theorem vx_throwS {cc : ByteArray} {pc : Nat} (hexec : p.tables.exec = Jvm.exec) (hb : c.code = cc) (hl : l.stackTraces = false) {own cls text : String} {names : List String} {ik is ic mc ms sa : Nat} {A : Nat → Prop}
    (hown : s.vm.findClass own = some m.cls) (hcls : Bundle.fit cls = true) (hnames : ∀ n ∈ names, Bundle.fit n = true)
    (hk : (Cond.classLink own ik cls).before args s = true) (hini : (Cond.initialized cls).before args s = true) (hstr : vk_R own is text sa s) (hat : ∀ w ∈ vx_atS own ic cls names, w.before args s = true)
    (hgood : ∀ w ∈ Cond.classLink own ik cls :: Cond.initialized cls :: vx_atS own ic cls names, vx_ot w = true)
    (hU : vx_Zq Bundle.tN "UNASSIGNED_STACK" Bundle.steD A s s.heap) (hN : vx_Zq Bundle.tN "SUPPRESSED_SENTINEL" Bundle.listD A s s.heap) (hS : va_S A s.heap H locs) (hsize : ls.size = c.maxLocals)
    (d0 : decode cc pc = .ok (.new ik, 3)) (d3 : decode cc (pc + 3) = .ok (.dup, 1)) (d4 : decode cc (pc + 4) = .ok (.ldc is, 2)) (d6 : decode cc (pc + 6) = .ok (.invokespecial ic, 3)) (d9 : decode cc (pc + 9) = .ok (.athrow, 1))
    (hout : ∀ x ∈ c.exceptionTable.toList, covers x (pc + 9) = false)
    (hRframes : names.length + 3 < R.frames) (hRlocals : (rest.map fun v => v.category).sum + (13 * (names.length + 1) + 43) ≤ R.locals) (hRcells : cells + 1 ≤ R.cells) (hRslots : slots + 6 ≤ R.slots) (hlocks : meth.locks = false)
    (hx : ∀ t : State, s.vm.Alike t.vm → H.size ≤ t.heap.size → (∀ q : Nat, q < H.size → t.heap[q]? = H[q]?) → XC cls s t)
    (hf : ∀ z ∈ locs, free z.base) (hc : cells + 1 ≤ mc) (hs : slots + 6 ≤ ms) :
    W p l e R s m args below meth c H locs cells slots (vx_MQ below Qc XC args s mc ms free) (F0 m pc ls rest) := by
  intro T hT X
  have htr : e.platform.stackTraces = false := (show e.platform.stackTraces = l.stackTraces by rw [X.admits.platform]).trans hl
  have Y := vx_rebase X (R' := { frames := R.frames, locals := R.locals, cells := 1, slots := 6 }) (Nat.le_refl _) (Nat.le_refl _) hRcells hRslots
  obtain ⟨s', hA⟩ : ∃ z, z = (T.setVm s.vm).setFrames (.invoking m args :: below) := ⟨_, rfl⟩
  rw [← hA] at Y
  have hvm : s'.vm = s.vm := by rw [hA]; rfl
  have hhp : s'.heap = H := by rw [hA]; exact hT
  have hW0 : s.WarmedH s'.vm := by rw [hvm]; exact State.WarmedH.refl s
  have hat' : ∀ w ∈ vx_atS own ic cls names, w.before args s' = true := fun w hw => vx_ot_at hW0 hvm.symm (hgood w (List.mem_cons_of_mem _ (List.mem_cons_of_mem _ hw))) (hat w hw)
  have hk' : (Cond.classLink own ik cls).before args s' = true := vx_ot_at hW0 hvm.symm (hgood _ List.mem_cons_self) hk
  have hini' : (Cond.initialized cls).before args s' = true := vx_ot_at hW0 hvm.symm (hgood _ (List.mem_cons_of_mem _ List.mem_cons_self)) hini
  have hU' : vx_Zq Bundle.tN "UNASSIGNED_STACK" Bundle.steD A s' s'.heap := by rw [hhp]; exact vx_Zq.moved hW0.alike (hU.kept hS.2.1)
  have hN' : vx_Zq Bundle.tN "SUPPRESSED_SENTINEL" Bundle.listD A s' s'.heap := by rw [hhp]; exact vx_Zq.moved hW0.alike (hN.kept hS.2.1)
  have h : ∀ w ∈ Bundle.ownAtoms own ic cls names, w.before args s' = true := vx_own hat' (vx_isRefq hU'.1) (vx_isRefq hN'.1) hU'.2.word hN'.2.word
  have hown' : s'.vm.findClass own = some m.cls := by rw [hvm]; exact hown
  have hins : (Cond.instantiable cls 6).before args s' = true := h _ (by simp [Bundle.ownAtoms])
  obtain ⟨vm₁, cX, kX, hfX, hkX, -, -, X₁, st1⟩ := Y.newCold hexec (own := own) (C := cls) (index := ik) (n := 6) hown' hk' hins hini'
    (g := F0 m pc ls rest) rfl (by rw [hb]; exact d0) (Nat.le_refl _) (Nat.le_refl _)
  generalize hT1 : (T.setVm vm₁).pushCell { cls := cX, slots := kX.instanceTypes.map defaultValue, vm := .none } = T1 at X₁ st1
  have hcat : (Value.ref T.heap.size).category = 1 := rfl
  have hcellA : T1.heap[T.heap.size]? = some (freshCell cX kX) := by rw [← hT1]; exact State.heap_pushCell_size _ _
  have d3' : decode c.code (pc + 3) = .ok (.dup, 1) := by rw [hb]; exact d3
  have d4' : decode c.code (pc + 4) = .ok (.ldc is, 2) := by rw [hb]; exact d4
  have hstr' : vk_R own is text sa s' := vk_R.warm hW0 hstr
  obtain ⟨U, hsteps, hrun, hend, hW, hsame, ce, hce, hO⟩ := X₁.ctorThrowS hexec htr (own := own) (cls := cls) (names := names) (ic := ic) hown' hcls hnames h (fun x hx => nomatch hx) hfX hkX hcellA (by rw [hhp, hT]; exact Nat.le_refl _) (msg := .ref sa) rfl
    (g := { method := m, pc := pc + 6, locals := ls, stack := .ref sa :: .ref T.heap.size :: .ref T.heap.size :: rest, locked := none }) rfl hsize rfl rfl (rest := rest) rfl
    (by rw [hb]; exact d6) (by rw [hb]; exact d9) hout hRframes (by simp only [List.map_cons, List.sum_cons, hcat]; omega) hlocks
  obtain ⟨f1, f2⟩ := vx_frame hsame
  rw [hhp] at f1 f2
  have hWs : s.WarmedH U.vm := State.WarmedH.trans hW0 hW
  have hcl : s.vm.findClass cls = some ce.cls := by
    have h9 := hO.cls
    rw [hvm] at h9
    exact h9
  have hall : s.sameButNew ({ U with vm := s.vm } : State) locs mc ms := by
    subst hA
    obtain ⟨e1, e2⟩ := hsame
    rw [State.setFrames_setFrames] at e1
    have h2 : (T.setVm s.vm).sameButNew ({ U with vm := s.vm } : State) [] (0 + 1) (0 + 6) := ⟨e1, e2⟩
    have h3 := X.same.trans h2
    rw [List.append_nil] at h3
    exact h3.mono hc hs
  refine ⟨U, ?_, .threw T.heap.size, hrun, hend, Or.inr ⟨T.heap.size, rfl, cls, ce, locs, hx U hWs.alike f1 (fun q hq => f2 q hq (fun z hz => nomatch hz)), hce, hO.vm, hcl, hWs, hall, hf⟩⟩
  refine st1 _ ?_
  show Steps p.tables e below (T1.setTop { method := m, pc := pc + 3, locals := ls, stack := .ref T.heap.size :: rest, locked := none }) _
  jvm_step X₁.here [X₁.here.top, hexec, d3', Value.category]
  exact X₁.ldcString hexec (own := own) (text := text) (index := is) (a := sa) hown' hstr'.1 hstr'.2
    (g := { method := m, pc := pc + 4, locals := ls, stack := .ref T.heap.size :: .ref T.heap.size :: rest, locked := none }) rfl d4' _ hsteps
/-- 'throw new E("text")', the text by a wide index -/
theorem vx_throwSW {cc : ByteArray} {pc : Nat} (hexec : p.tables.exec = Jvm.exec) (hb : c.code = cc) (hl : l.stackTraces = false) {own cls text : String} {names : List String} {ik is ic mc ms sa : Nat} {A : Nat → Prop}
    (hown : s.vm.findClass own = some m.cls) (hcls : Bundle.fit cls = true) (hnames : ∀ n ∈ names, Bundle.fit n = true)
    (hk : (Cond.classLink own ik cls).before args s = true) (hini : (Cond.initialized cls).before args s = true) (hstr : vk_R own is text sa s) (hat : ∀ w ∈ vx_atS own ic cls names, w.before args s = true)
    (hgood : ∀ w ∈ Cond.classLink own ik cls :: Cond.initialized cls :: vx_atS own ic cls names, vx_ot w = true)
    (hU : vx_Zq Bundle.tN "UNASSIGNED_STACK" Bundle.steD A s s.heap) (hN : vx_Zq Bundle.tN "SUPPRESSED_SENTINEL" Bundle.listD A s s.heap) (hS : va_S A s.heap H locs) (hsize : ls.size = c.maxLocals)
    (d0 : decode cc pc = .ok (.new ik, 3)) (d3 : decode cc (pc + 3) = .ok (.dup, 1)) (d4 : decode cc (pc + 4) = .ok (.ldc_w is, 3)) (d7 : decode cc (pc + 7) = .ok (.invokespecial ic, 3)) (d10 : decode cc (pc + 10) = .ok (.athrow, 1))
    (hout : ∀ x ∈ c.exceptionTable.toList, covers x (pc + 10) = false)
    (hRframes : names.length + 3 < R.frames) (hRlocals : (rest.map fun v => v.category).sum + (13 * (names.length + 1) + 43) ≤ R.locals) (hRcells : cells + 1 ≤ R.cells) (hRslots : slots + 6 ≤ R.slots) (hlocks : meth.locks = false)
    (hx : ∀ t : State, s.vm.Alike t.vm → H.size ≤ t.heap.size → (∀ q : Nat, q < H.size → t.heap[q]? = H[q]?) → XC cls s t)
    (hf : ∀ z ∈ locs, free z.base) (hc : cells + 1 ≤ mc) (hs : slots + 6 ≤ ms) :
    W p l e R s m args below meth c H locs cells slots (vx_MQ below Qc XC args s mc ms free) (F0 m pc ls rest) := by
  intro T hT X
  have htr : e.platform.stackTraces = false := (show e.platform.stackTraces = l.stackTraces by rw [X.admits.platform]).trans hl
  have Y := vx_rebase X (R' := { frames := R.frames, locals := R.locals, cells := 1, slots := 6 }) (Nat.le_refl _) (Nat.le_refl _) hRcells hRslots
  obtain ⟨s', hA⟩ : ∃ z, z = (T.setVm s.vm).setFrames (.invoking m args :: below) := ⟨_, rfl⟩
  rw [← hA] at Y
  have hvm : s'.vm = s.vm := by rw [hA]; rfl
  have hhp : s'.heap = H := by rw [hA]; exact hT
  have hW0 : s.WarmedH s'.vm := by rw [hvm]; exact State.WarmedH.refl s
  have hat' : ∀ w ∈ vx_atS own ic cls names, w.before args s' = true := fun w hw => vx_ot_at hW0 hvm.symm (hgood w (List.mem_cons_of_mem _ (List.mem_cons_of_mem _ hw))) (hat w hw)
  have hk' : (Cond.classLink own ik cls).before args s' = true := vx_ot_at hW0 hvm.symm (hgood _ List.mem_cons_self) hk
  have hini' : (Cond.initialized cls).before args s' = true := vx_ot_at hW0 hvm.symm (hgood _ (List.mem_cons_of_mem _ List.mem_cons_self)) hini
  have hU' : vx_Zq Bundle.tN "UNASSIGNED_STACK" Bundle.steD A s' s'.heap := by rw [hhp]; exact vx_Zq.moved hW0.alike (hU.kept hS.2.1)
  have hN' : vx_Zq Bundle.tN "SUPPRESSED_SENTINEL" Bundle.listD A s' s'.heap := by rw [hhp]; exact vx_Zq.moved hW0.alike (hN.kept hS.2.1)
  have h : ∀ w ∈ Bundle.ownAtoms own ic cls names, w.before args s' = true := vx_own hat' (vx_isRefq hU'.1) (vx_isRefq hN'.1) hU'.2.word hN'.2.word
  have hown' : s'.vm.findClass own = some m.cls := by rw [hvm]; exact hown
  have hins : (Cond.instantiable cls 6).before args s' = true := h _ (by simp [Bundle.ownAtoms])
  obtain ⟨vm₁, cX, kX, hfX, hkX, -, -, X₁, st1⟩ := Y.newCold hexec (own := own) (C := cls) (index := ik) (n := 6) hown' hk' hins hini'
    (g := F0 m pc ls rest) rfl (by rw [hb]; exact d0) (Nat.le_refl _) (Nat.le_refl _)
  generalize hT1 : (T.setVm vm₁).pushCell { cls := cX, slots := kX.instanceTypes.map defaultValue, vm := .none } = T1 at X₁ st1
  have hcat : (Value.ref T.heap.size).category = 1 := rfl
  have hcellA : T1.heap[T.heap.size]? = some (freshCell cX kX) := by rw [← hT1]; exact State.heap_pushCell_size _ _
  have d3' : decode c.code (pc + 3) = .ok (.dup, 1) := by rw [hb]; exact d3
  have d4' : decode c.code (pc + 4) = .ok (.ldc_w is, 3) := by rw [hb]; exact d4
  have hstr' : vk_R own is text sa s' := vk_R.warm hW0 hstr
  obtain ⟨U, hsteps, hrun, hend, hW, hsame, ce, hce, hO⟩ := X₁.ctorThrowS hexec htr (own := own) (cls := cls) (names := names) (ic := ic) hown' hcls hnames h (fun x hx => nomatch hx) hfX hkX hcellA (by rw [hhp, hT]; exact Nat.le_refl _) (msg := .ref sa) rfl
    (g := { method := m, pc := pc + 7, locals := ls, stack := .ref sa :: .ref T.heap.size :: .ref T.heap.size :: rest, locked := none }) rfl hsize rfl rfl (rest := rest) rfl
    (by rw [hb]; exact d7) (by rw [hb]; exact d10) hout hRframes (by simp only [List.map_cons, List.sum_cons, hcat]; omega) hlocks
  obtain ⟨f1, f2⟩ := vx_frame hsame
  rw [hhp] at f1 f2
  have hWs : s.WarmedH U.vm := State.WarmedH.trans hW0 hW
  have hcl : s.vm.findClass cls = some ce.cls := by
    have h9 := hO.cls
    rw [hvm] at h9
    exact h9
  have hall : s.sameButNew ({ U with vm := s.vm } : State) locs mc ms := by
    subst hA
    obtain ⟨e1, e2⟩ := hsame
    rw [State.setFrames_setFrames] at e1
    have h2 : (T.setVm s.vm).sameButNew ({ U with vm := s.vm } : State) [] (0 + 1) (0 + 6) := ⟨e1, e2⟩
    have h3 := X.same.trans h2
    rw [List.append_nil] at h3
    exact h3.mono hc hs
  refine ⟨U, ?_, .threw T.heap.size, hrun, hend, Or.inr ⟨T.heap.size, rfl, cls, ce, locs, hx U hWs.alike f1 (fun q hq => f2 q hq (fun z hz => nomatch hz)), hce, hO.vm, hcl, hWs, hall, hf⟩⟩
  refine st1 _ ?_
  show Steps p.tables e below (T1.setTop { method := m, pc := pc + 3, locals := ls, stack := .ref T.heap.size :: rest, locked := none }) _
  jvm_step X₁.here [X₁.here.top, hexec, d3', Value.category]
  exact X₁.ldcStringW hexec (own := own) (text := text) (index := is) (a := sa) hown' hstr'.1 hstr'.2
    (g := { method := m, pc := pc + 4, locals := ls, stack := .ref T.heap.size :: .ref T.heap.size :: rest, locked := none }) rfl d4' _ hsteps
end Ends
section Bodies
variable {l : Launch}
theorem vx_ofW {y : MethodName} {ws ws' : List Cond} {rm : Room} {Pc : Array Value → State → Prop} {Qc : Array Value → State → Outcome → State → Prop} {XC : String → State → State → Prop} {mc ms : Nat} {free : Addr → Prop} {cc : ByteArray} {maxL : Nat} {ret : Option FieldType}
    (hy : plainName y.cls = true) (hw : ws = Cond.code y cc maxL ret :: ws')
    (body : ∀ p e s m args below meth c s₁, BodyLoose p l y (headSpec ws rm) cc maxL ret e s m args below meth c s₁ → c.maxLocals = maxL → (∀ x ∈ c.exceptionTable.toList, False) → Pc args s →
      W p l e (headSpec ws rm).room s m args below meth c s.heap [] 0 0 (vx_MQ below Qc XC args s mc ms free) (entryFrame m args maxL)) : vx_Met l y ws rm Pc Qc XC mc ms free := by
  refine MetFree.of_bodyS (code := cc) (maxLocals := maxL) (ret := ret) hy ?_ ?_
  · intro args s m h hn
    obtain ⟨meth, c, h1, h2, h3, h4, h5, h6, -, -⟩ := Cond.code_spec hn (atoms_spec (ws := ws) h _ (by rw [hw]; exact List.mem_cons_self))
    exact ⟨meth, c, h1, h2, h3, h4, h5, h6⟩
  · intro p e s m args below meth c s₁ B hml hP _
    have hh0 : s₁.heap = s.heap := by rw [B.state]; rfl
    have ht : ∀ x ∈ c.exceptionTable.toList, False := by
      obtain ⟨meth9, c9, h1, h2, -, -, -, -, h7, -⟩ := Cond.code_spec B.named (atoms_spec (ws := ws) B.pre _ (by rw [hw]; exact List.mem_cons_self))
      cases Option.some.inj (h1.symm.trans B.method)
      cases Option.some.inj (h2.symm.trans (Stand.of_body B).code)
      intro x hx
      rw [Array.isEmpty_iff.mp h7] at hx
      cases hx
    obtain ⟨t, a1, o, b1, b2, b3⟩ := body p e s m args below meth c s₁ B hml ht hP s₁ hh0 (Stand.of_body B)
    exact ⟨t, o, a1, b1, b2, b3⟩
/-- the table of a body with handlers -/
theorem vx_table {p : Program} {x y : MethodName} {S : Spec} {cc bytes : ByteArray} {maxL maxL' : Nat} {ret ret' : Option FieldType} {e : Env} {s s₁ : State} {m : MethodId} {args : Array Value} {below : List Frame} {meth : Method} {c : Code} {hh : List (Nat × Nat × Nat × Nat)}
    (B : BodyLoose p l y S cc maxL ret e s m args below meth c s₁) (h : (Cond.codeWith y bytes maxL' ret' hh).before args s = true) : c.exceptionTable.toList = tableOf hh := by
  obtain ⟨m9, meth9, c9, hn9, h1, h2, -, -, h6, -⟩ := Cond.codeWith_spec h
  cases Option.some.inj (hn9.symm.trans B.named)
  cases Option.some.inj (h1.symm.trans B.method)
  cases Option.some.inj (h2.symm.trans (Stand.of_body B).code)
  rw [← h6, table_eq]
end Bodies
end VXA
/-! ===== END ===== -/
/-! ===== BEGIN a static call of a method with an exception table ===== -/
section VXS
variable {p : Program} {l : Launch} {e : Env} {R : Room} {s : State} {m : MethodId} {args : Array Value} {below : List Frame} {meth : Method} {c : Code} {T : State} {H : Heap} {locs : List Loc} {cells slots : Nat}
abbrev vx_CSW (R : Room) (s : State) (args : Array Value) (own : String) (index : Nat) (y : MethodName) (bytes : ByteArray) (maxL : Nat) (ret : Option FieldType) (hh : List (Nat × Nat × Nat × Nat)) (ws : List Cond) (rm : Room) (mc ms n : Nat) : Prop :=
  (rm.cells = mc ∧ rm.slots = ms ∧ rm.frames + 1 ≤ R.frames ∧ 8 + (maxL + 11) + rm.locals ≤ R.locals ∧ (∀ w ∈ ws, ∀ (a' : Array Value) (U : State), s.WarmedH U.vm → w.before a' U = true) ∧ Cond.codeWith y bytes maxL ret hh ∈ ws) ∧
  (Cond.codeWith y bytes maxL ret hh).before args s = true ∧ (Cond.initialized y.cls).before args s = true ∧ (y.cls ≠ "java/lang/invoke/MethodHandle" ∧ y.cls ≠ "java/lang/invoke/VarHandle") ∧
  (∀ sig, parseMethodDescriptor y.desc = some sig → n = sig.parameters.length) ∧ (Cond.methodLink own index y).before args s = true ∧ (Cond.static y).before args s = true
theorem vx_cwSW {own : String} {index maxL mc ms : Nat} {y : MethodName} {bytes : ByteArray} {ret : Option FieldType} {hh : List (Nat × Nat × Nat × Nat)} {Ts ws ws' : List Cond} {rm : Room} (n : Nat) (ht : ∀ w ∈ Ts, w.before args s = true) (hT : GoodIn Ts (va_wsS own index y ws)) (hw : ws = Cond.codeWith y bytes maxL ret hh :: ws') (hrc : rm.cells = mc) (hrs : rm.slots = ms)
    (hd : y.cls ≠ "java/lang/invoke/MethodHandle" ∧ y.cls ≠ "java/lang/invoke/VarHandle" ∧ (parseMethodDescriptor y.desc).map (fun d => d.parameters.length) = some n) (hR : rm.frames + 1 ≤ R.frames ∧ 8 + (maxL + 11) + rm.locals ≤ R.locals) :
    vx_CSW R s args own index y bytes maxL ret hh ws rm mc ms n := by
  have ok : ∀ w ∈ va_wsS own index y ws, w.before args s = true := fun w h => ht w (hT w h).1
  have hG : GoodIn Ts ws := fun w h => hT w (by unfold va_wsS; exact List.mem_append_right _ h)
  have hc : Cond.codeWith y bytes maxL ret hh ∈ ws := by rw [hw]; exact List.mem_cons_self
  refine ⟨⟨hrc, hrs, hR.1, hR.2, pay_in ht hG, hc⟩, ht _ (hG _ hc).1, ok _ (by simp [va_wsS]), ⟨hd.1, hd.2.1⟩, fun sig h => ?_, ok _ (by simp [va_wsS]), ok _ (by simp [va_wsS])⟩
  have h2 := hd.2.2
  rw [h] at h2
  exact (Option.some.inj h2).symm
theorem vx_callSW (X : Stand p l e R s m args below meth c T locs cells slots) (hexec : p.tables.exec = Jvm.exec) {own : String} {index : Nat} {y : MethodName} {bytes : ByteArray} {maxL : Nat} {ret : Option FieldType} {hh : List (Nat × Nat × Nat × Nat)}
    (hown : s.vm.findClass own = some m.cls) (hlink : (Cond.methodLink own index y).before args s = true) (hstat : (Cond.static y).before args s = true) (hinit : (Cond.initialized y.cls).before args s = true)
    (hcode : (Cond.codeWith y bytes maxL ret hh).before args s = true) (hy : y.cls ≠ "java/lang/invoke/MethodHandle" ∧ y.cls ≠ "java/lang/invoke/VarHandle")
    {W9 : Nat} {Pre : Pt → Array Value → Prop} {Post : Pt → Array Value → Option Value → Pt → Prop} (hK : Back l R p e below s args y 3 W9 Pre Post)
    {g : JFrame} (hg : g.method = m) (hsize : g.locals.size = c.maxLocals) {argsL rest : List Value} (hlen : ∀ sig, parseMethodDescriptor y.desc = some sig → argsL.length = sig.parameters.length)
    (hstack : g.stack = argsL.reverse ++ rest) (hW : 2 * g.monitorRoom + (rest.map fun v => v.category).sum ≤ W9) (hdg : decode c.code g.pc = .ok (.invokestatic index, 3))
    (hpre : ∀ vm₁, s.WarmedH vm₁ → Pre ⟨T.setVm vm₁, locs, cells, slots⟩ argsL.toArray) :
    ∃ (v : Option Value) (vm₁ : Vm) (B : Pt), s.WarmedH vm₁ ∧ Stand p l e R s m args below meth c B.U B.locs B.cells B.slots ∧ Post ⟨T.setVm vm₁, locs, cells, slots⟩ argsL.toArray v B ∧
      ∀ target, Steps p.tables e below (B.U.setTop { g with pc := g.pc + 3, stack := v.toList ++ rest }) target → Steps p.tables e below (T.setTop g) target := by
  obtain ⟨mk, methM, cM, hnamed, hmethM, -, -, -, -, -, -, hsigM⟩ := Cond.codeWith_spec hcode
  have hstatic : methM.isStatic = true := Cond.static_spec hnamed hmethM hstat
  obtain ⟨kP, hkP, -⟩ := className_of_methodNamed hnamed
  have hinitP : kP.init = .initialized := Cond.initialized_spec (findClass_of_methodNamed hnamed) hkP hinit
  obtain ⟨vm₁, X₁, hstep₁⟩ := X.invokestatic hexec hown hlink hnamed hmethM hstatic hkP hinitP hy (g := g) hg (argsL := argsL) (rest := rest) (hlen _ hsigM) hstack hdg
  obtain ⟨v, B, X', hpost, hsteps⟩ := hK m meth c ⟨T.setVm vm₁, locs, cells, slots⟩ { g with stack := rest } (.invokestatic index) mk argsL.toArray X₁ hg hsize hdg hW (X₁.named hnamed) (hpre vm₁ X₁.warmed)
  exact ⟨v, vm₁, B, X₁.warmed, X', hpost, fun target h => hstep₁ _ fun acts => by rw [doInvoke_state]; exact hsteps.trans h⟩
theorem vx_runSW {y : MethodName} {bytes cc : ByteArray} {maxL nL mc ms n index : Nat} {ret : Option FieldType} {hh : List (Nat × Nat × Nat × Nat)} {ws : List Cond} {rm : Room} {Pc : Array Value → State → Prop} {Qc : Array Value → State → Outcome → State → Prop} {free : Addr → Prop} {Ts : List Cond} {own : String} {As rest : List Value} {g : JFrame}
    (S : CallFix p m c cc nL s args Ts own) (hM : Met l y ws rm Pc Qc mc ms free) (cw : vx_CSW R s args own index y bytes maxL ret hh ws rm mc ms n) (hp : PreS s H Pc As)
    (hg : g.method = m) (hn : As.length = n) (hsize : g.locals.size = nL) (hstack : g.stack = As.reverse ++ rest) (hW : 2 * g.monitorRoom + (rest.map fun v => v.category).sum ≤ 8) (hdg : decode cc g.pc = .ok (.invokestatic index, 3)) (hf : cells + mc ≤ R.cells ∧ slots + ms ≤ R.slots) :
    va_Run p l e R s m args below meth c H locs cells slots mc ms g rest (Qc As.toArray) (free) := by
  obtain ⟨⟨hrc, hrs, hfr, hlo, hws, hcw⟩, hcode, hini, hy, hlen, hl, hstt⟩ := cw
  have hK : Back l R p e below s args y 3 8 (PreOf R mc ms Pc) (PostOf Qc mc ms free) := va_backW (hh := hh) (bytes := bytes) (maxL := maxL) (ret := ret) hM hp.1 hrc hrs hfr hlo hws hcw (fun a' U hW => word_at hW (Or.inl (by first | rfl | simp [Cond.onTables, Cond.keeps, Cond.steady])) hini)
  obtain ⟨hx, hb, hml, ho, -⟩ := S
  intro T hT X
  obtain ⟨v, vm₁, ⟨U', l2, c2, s2⟩, hW₁, X', ⟨g', mk, t, L, e1, e2, hq, h1, hL, h2, h3⟩, st⟩ := vx_callSW X hx (hh := hh) (bytes := bytes) (maxL := maxL) (ret := ret) ho hl hstt hini hcode hy hK hg (hsize.trans hml.symm) (argsL := As) (rest := rest) (fun sig h => hn.trans (hlen sig h)) hstack hW (by rw [hb]; exact hdg)
    (fun vm₁ hW₁ => ⟨hf.1, hf.2, hp.2 (T.setVm vm₁) hT hW₁⟩)
  dsimp only [Pt.U, Pt.locs, Pt.cells, Pt.slots] at X' e1 e2 h1 h2 h3 st
  subst h1; subst h2; subst h3
  exact ⟨v, (T.setVm vm₁).calling g' mk As.toArray, t, U', L, hT, X', hL, e1, e2, hq, st⟩
/-- not caught here, past rows that name other classes: it goes on to the caller -/
theorem vx_outP {p : Program} {l : Launch} {e : Env} {R : Room} {s : State} {m : MethodId} {args : Array Value} {below : List Frame} {meth : Method} {c : Code} {H : Heap} {locs : List Loc} {cells slots : Nat} {free : Addr → Prop} {ls : Array Slot} {rest : List Value} {Qc : Array Value → State → Outcome → State → Prop} {XC : String → State → State → Prop}
    {pc : Nat} {own E : String} {ce : Cell} {q : Addr} {mc ms : Nat} (hown : s.vm.findClass own = some m.cls) (hlocks : meth.locks = false)
    (hpass : ∀ z ∈ c.exceptionTable.toList, covers z pc = false ∨ (z.catchType ≠ 0 ∧ ∃ nm : String, (Cond.classLink own z.catchType nm).before args s = true ∧ va_Nc E nm s)) (hcell : H[q]? = some ce) (hv : ce.vm = .none) (hcl : s.vm.findClass E = some ce.cls)
    (hx : ∀ t : State, t.heap = H → s.vm.Alike t.vm → XC E s t) (hf : ∀ z ∈ locs, free z.base) (hc : cells ≤ mc) (hs : slots ≤ ms) :
    vx_W p l e R s m args below meth c H locs cells slots (vx_MQ below Qc XC args s mc ms free) (F0 m pc ls rest) q := by
  intro T hT X
  have hpl : e.platform.magicAccessors = ({} : Platform).magicAccessors := by rw [X.admits.platform]
  obtain ⟨vm', hW', X', st⟩ := X.outThrough hlocks q (g := F0 m pc ls rest) rfl rfl rfl (cell := ce) (by rw [hT]; exact hcell) (by rw [hv]; rfl)
    (by obtain ⟨k9, h9, -⟩ := Vm.findClass_spec hcl; exact ⟨k9, h9⟩) (fun z hz => by
      rcases hpass z hz with h | ⟨hz0, nm, hl1, hn1⟩
      · exact Or.inl h
      · obtain ⟨c6, hc6, hcl6⟩ := Cond.classLink_spec hown hl1 e.platform hpl
        obtain ⟨a8, b8, h1, h2, h3⟩ := hn1
        cases Option.some.inj (h1.symm.trans hcl)
        cases Option.some.inj (h2.symm.trans hc6)
        exact Or.inr ⟨hz0, _, hcl6, h3⟩)
  obtain ⟨g₀, hfr⟩ := X'.frames_eq
  have hcell9 : ((T.setVm vm').setFrames (.throwing q :: below)).heap[q]? = some ce := by
    show T.heap[q]? = some ce
    rw [hT]; exact hcell
  have hend : Ended ((T.setVm vm').setFrames (.throwing q :: below)) below (.threw q) := State.frames_setFrames _ (State.cur_lt_of_frames hfr)
  refine ⟨(T.setVm vm').setFrames (.throwing q :: below), ?_, .threw q, X'.here.running, hend, Or.inr ⟨q, rfl, E, ce, locs, hx _ hT (X'.ends _).1.alike, hcell9, hv, hcl, (X'.ends _).1, (X'.ends _).2.mono hc hs, hf⟩⟩
  rw [X.pushThrowing_eq]
  exact st
/-- a thing of a world lies in the heap -/
theorem vx_lt {D : va_G} {cl : List vw_C} {ws : va_W} {H1 : Heap} (h : va_P D cl ws H1) {k : Nat} {q : Nat × va_E} (hk : ws[k]? = some q) : q.1 < H1.size := (h k q hk).lt
end VXS
/-! ===== END ===== -/
/-! ===== BEGIN methods with a table of their own: called by a name, returning or throwing ===== -/
section VXH
/-! vx_backW, vx_callVX, vx_callSX, vx_callVW, vx_runVW, vx_runVX, vx_runSX, vx_ofWH follow the same proofs as their sisters above (Free/Laws.lean, Shelf42/LK1.lean); vx_outP calls Shelf42/NT130.lean (outThrough). -/
section
variable {l : Launch} {R : Room} {p : Program} {e : Env} {below : List Frame} {s : State} {sargs : Array Value} {y : MethodName} {len W9 : Nat}
theorem vx_backW {ws : List Cond} {rm : Room} {Pc : Array Value → State → Prop} {Qc : Array Value → State → Outcome → State → Prop} {XC : String → State → State → Prop} {mc ms : Nat} {free : Addr → Prop} {bytes : ByteArray} {maxL : Nat} {ret : Option FieldType} {hh : List (Nat × Nat × Nat × Nat)}
    (hM : vx_Met l y ws rm Pc Qc XC mc ms free) (hblind : FrameBlind Pc) (hrc : rm.cells = mc) (hrs : rm.slots = ms)
    (hframes : rm.frames + 1 ≤ R.frames) (hlocals : W9 + (maxL + 11) + rm.locals ≤ R.locals)
    (hws : ∀ w ∈ ws, ∀ a' U, s.WarmedH U.vm → w.before a' U = true) (hcode : Cond.codeWith y bytes maxL ret hh ∈ ws) (hinit : ∀ a' U, s.WarmedH U.vm → (Cond.initialized y.cls).before a' U = true) :
    vx_Back l R p e below s sargs y len W9 (PreOf R mc ms Pc) (PostOf Qc mc ms free) (vx_Post XC mc ms free) := by
  intro m meth c A g ig mk a X hg hsize hdg hW hn hp
  have h1 : (headSpec ws rm).pre.before a A.U = true := atoms_intro fun w hw => hws w hw _ _ X.warmed
  have h2 : (Cond.codeWith y bytes maxL ret hh).before a A.U = true := hws _ hcode _ _ X.warmed
  have h3 : (Cond.initialized y.cls).before a A.U = true := hinit _ _ X.warmed
  have h4 : A.cells + (headSpec ws rm).room.cells ≤ R.cells := by rw [show (headSpec ws rm).room.cells = mc from hrc]; exact hp.1
  have h5 : A.slots + (headSpec ws rm).room.slots ≤ R.slots := by rw [show (headSpec ws rm).room.slots = ms from hrs]; exact hp.2.1
  have hPc : Pc a (A.U.calling g mk a) := hblind _ _ _ _ hp.2.2
  obtain ⟨U, Ls, c0, s0⟩ := A
  dsimp only [Pt.U, Pt.locs, Pt.cells, Pt.slots] at h1 h2 h3 h4 h5 X hn hPc ⊢
  obtain ⟨m9, methY, cY, hn9, hmY, hcY, -, hlY, -⟩ := Cond.codeWith_spec h2
  cases Option.some.inj (hn9.symm.trans hn)
  obtain ⟨kY, hkY, -⟩ := className_of_methodNamed hn
  have hinitY : kY.init = .initialized := Cond.initialized_spec (findClass_of_methodNamed hn) hkY h3
  have h : At U g.method c below := by rw [hg]; exact X.here
  have hlocals9 : W9 + (maxL + 11) + (headSpec ws rm).room.locals ≤ R.locals := hlocals
  have happ : (headSpec ws rm).appliesLoose y e.platform (U.calling g mk a) = true :=
    Spec.appliesLoose_calling (g := g) h hdg hn hkY hinitY
      (X.room_calling (g := g) (R' := (headSpec ws rm).room) hsize hmY hcY hframes (by rw [hlY]; omega) h4 h5) h1
  obtain ⟨mid, hmid⟩ := h.above
  have hfr : (U.setTop g).frames = (.java g :: mid) ++ below := by rw [State.frames_setTop' g h.top, hmid]; rfl
  obtain ⟨o, s₂, hsteps, -, hend, hq⟩ := Steps.callFree hM p X.admits X.cas X.clock (acts := []) hfr happ hPc trivial
  have hq' : vx_Q Qc XC mc ms free a (U.calling g mk a) o s₂ := hq
  rw [State.frames_setTop' g h.top] at hend
  obtain ⟨g₀, hg0⟩ := Option.isSome_iff_exists.mp h.top
  obtain ⟨r, hr⟩ := State.topJava?_eq_some.mp hg0
  have hr' : (({ U with heap := s₂.heap, slotsUsed := s₂.slotsUsed } : State).setVm s₂.vm).frames = .java g₀ :: r := hr
  rcases hq' with ⟨hqc, L, hfe, hL⟩ | ⟨q, rfl, E, ce, L, hx, hce, hcv, hcl, hW₂, hsm, hL⟩
  · obtain ⟨⟨v, rfl⟩, hW₂, e2, q2, q3, q4, q5, q6⟩ := id hfe
    have e3 : s₂ = ({ (U.calling g mk a).setFrames s₂.frames with heap := s₂.heap, slotsUsed := s₂.slotsUsed } : State).setVm s₂.vm := by
      have : s₂ = ({ s₂ with vm := (U.calling g mk a).vm } : State).setVm s₂.vm := rfl
      rw [e2] at this
      exact this
    obtain ⟨c₂, i₂, len₂, hc₂, hd₂, hf₂⟩ := hend
    have hW' : U.WarmedH s₂.vm := hW₂
    have hcc : c₂ = c := by
      have h1 : s₂.code? g.method = U.code? g.method := by
        rw [State.code?_eq, State.code?_eq, hW'.alike.method?]
      exact Option.some.inj (hc₂.symm.trans (h1.trans h.code))
    subst hcc
    have hlen : len₂ = len := by rw [hdg] at hd₂; cases hd₂; rfl
    subst hlen
    have hs₂ : s₂ = (({ U with heap := s₂.heap, slotsUsed := s₂.slotsUsed } : State).setVm s₂.vm).setTop { g with pc := g.pc + len₂, stack := v.toList ++ g.stack } := by
      refine e3.trans ?_
      rw [hf₂, State.calling_eq h.top, State.setFrames_setFrames, State.setTop_of_frames _ hr', hr]
      rfl
    have hsame : U.sameButNew ({ U with heap := s₂.heap, slotsUsed := s₂.slotsUsed } : State) L mc ms := by
      refine ⟨?_, q2, q3, q4, q5, q6⟩
      obtain ⟨t, ht, -⟩ := State.frames_cons hr
      show ({ U with heap := s₂.heap, slotsUsed := s₂.slotsUsed } : State) = { U.setFrames U.frames with heap := s₂.heap, slotsUsed := s₂.slotsUsed }
      rw [State.setFrames_self ht]
    subst hg
    refine Or.inl ⟨v, ⟨(({ U with heap := s₂.heap, slotsUsed := s₂.slotsUsed } : State).setVm s₂.vm), Ls ++ L, c0 + mc, s0 + ms⟩,
      ⟨X.admits, X.cas, X.clock, X.frames, X.room, X.hears, X.method, X.code, (X.here.setHeapUsed s₂.heap s₂.slotsUsed).setVm hW'.alike, X.tail, State.WarmedH.trans X.warmed hW', X.limits, X.bytes, X.same.trans (hsame.setVm s.vm)⟩,
      ⟨g, mk, s₂, L, rfl, rfl, hqc, rfl, hL, rfl, rfl⟩, ?_⟩
    show Steps p.tables e below _ ((({ U with heap := s₂.heap, slotsUsed := s₂.slotsUsed } : State).setVm s₂.vm).setTop { g with pc := g.pc + len₂, stack := v.toList ++ g.stack })
    rw [← hs₂]
    exact hsteps
  · obtain ⟨e2, q2, q3, q4, q5, q6⟩ := id hsm
    have e3 : s₂ = ({ (U.calling g mk a).setFrames s₂.frames with heap := s₂.heap, slotsUsed := s₂.slotsUsed } : State).setVm s₂.vm := by
      have : s₂ = ({ s₂ with vm := (U.calling g mk a).vm } : State).setVm s₂.vm := rfl
      rw [e2] at this
      exact this
    have hf₂ : s₂.frames = .throwing q :: .java g :: U.frames.tail := hend
    have hW' : U.WarmedH s₂.vm := hW₂
    have hs₂ : s₂ = ((({ U with heap := s₂.heap, slotsUsed := s₂.slotsUsed } : State).setVm s₂.vm).setTop g).pushFrame (.throwing q) := by
      refine e3.trans ?_
      rw [hf₂, State.calling_eq h.top, State.setFrames_setFrames, State.pushFrame, State.frames_setTop _ hr', State.setTop_of_frames _ hr', State.setFrames_setFrames, hr]
      rfl
    have hsame : U.sameButNew ({ U with heap := s₂.heap, slotsUsed := s₂.slotsUsed } : State) L mc ms := by
      refine ⟨?_, q2, q3, q4, q5, q6⟩
      obtain ⟨t, ht, -⟩ := State.frames_cons hr
      show ({ U with heap := s₂.heap, slotsUsed := s₂.slotsUsed } : State) = { U.setFrames U.frames with heap := s₂.heap, slotsUsed := s₂.slotsUsed }
      rw [State.setFrames_self ht]
    subst hg
    refine Or.inr ⟨q, ⟨(({ U with heap := s₂.heap, slotsUsed := s₂.slotsUsed } : State).setVm s₂.vm), Ls ++ L, c0 + mc, s0 + ms⟩,
      ⟨X.admits, X.cas, X.clock, X.frames, X.room, X.hears, X.method, X.code, (X.here.setHeapUsed s₂.heap s₂.slotsUsed).setVm hW'.alike, X.tail, State.WarmedH.trans X.warmed hW', X.limits, X.bytes, X.same.trans (hsame.setVm s.vm)⟩,
      ⟨g, mk, s₂, L, E, ce, rfl, rfl, hx, hce, hcv, hcl, rfl, hL, rfl, rfl⟩, ?_⟩
    show Steps p.tables e below _ (((({ U with heap := s₂.heap, slotsUsed := s₂.slotsUsed } : State).setVm s₂.vm).setTop g).pushFrame (.throwing q))
    rw [← hs₂]
    exact hsteps
end
variable {p : Program} {l : Launch} {e : Env} {R : Room} {s : State} {m : MethodId} {args : Array Value} {below : List Frame} {meth : Method} {c : Code} {T : State} {H : Heap} {locs : List Loc} {cells slots : Nat}
theorem vx_callVX (X : Stand p l e R s m args below meth c T locs cells slots) (hexec : p.tables.exec = Jvm.exec) {own C : String} {index : Nat} {y : MethodName} {bytes : ByteArray} {maxL : Nat} {ret : Option FieldType} {hh : List (Nat × Nat × Nat × Nat)}
    (hown : s.vm.findClass own = some m.cls) (hlink : (Cond.methodLink own index y).before args s = true) (hinst : (Cond.instanceMethod y).before args s = true) (hsel : (Cond.selects C y y).before args s = true)
    (hcode : (Cond.codeWith y bytes maxL ret hh).before args s = true) (hy : y.cls ≠ "java/lang/invoke/MethodHandle" ∧ y.cls ≠ "java/lang/invoke/VarHandle")
    {W9 : Nat} {Pre : Pt → Array Value → Prop} {Post : Pt → Array Value → Option Value → Pt → Prop} {PostX : Pt → Array Value → Addr → Pt → Prop} (hK : vx_Back l R p e below s args y 3 W9 Pre Post PostX)
    {b : Addr} {cellB : Cell} (hcell : T.heap[b]? = some cellB) (hobj : cellB.vm.isStatics = false) (hcls : s.vm.findClass C = some cellB.cls)
    {g : JFrame} (hg : g.method = m) (hsize : g.locals.size = c.maxLocals) {argsL rest : List Value} (hlen : ∀ sig, parseMethodDescriptor y.desc = some sig → argsL.length = sig.parameters.length)
    (hstack : g.stack = argsL.reverse ++ .ref b :: rest) (hW : 2 * g.monitorRoom + (rest.map fun v => v.category).sum ≤ W9) (hdg : decode c.code g.pc = .ok (.invokevirtual index, 3))
    (hpre : ∀ vm₁, s.WarmedH vm₁ → Pre ⟨T.setVm vm₁, locs, cells, slots⟩ (Value.ref b :: argsL).toArray) :
    (∃ (v : Option Value) (vm₁ : Vm) (B : Pt), s.WarmedH vm₁ ∧ Stand p l e R s m args below meth c B.U B.locs B.cells B.slots ∧ Post ⟨T.setVm vm₁, locs, cells, slots⟩ (Value.ref b :: argsL).toArray v B ∧
      ∀ target, Steps p.tables e below (B.U.setTop { g with pc := g.pc + 3, stack := v.toList ++ rest }) target → Steps p.tables e below (T.setTop g) target) ∨
    (∃ (q : Addr) (vm₁ : Vm) (B : Pt), s.WarmedH vm₁ ∧ Stand p l e R s m args below meth c B.U B.locs B.cells B.slots ∧ PostX ⟨T.setVm vm₁, locs, cells, slots⟩ (Value.ref b :: argsL).toArray q B ∧
      Steps p.tables e below (T.setTop g) ((B.U.setTop { g with stack := rest }).pushFrame (.throwing q))) := by
  obtain ⟨mk, methM, hnamed, hmethM, hstM, habM⟩ := Cond.instanceMethod_spec hinst
  obtain ⟨m8, methM', cM, hn8, hmethM', -, -, -, -, -, -, hsigM⟩ := Cond.codeWith_spec hcode
  cases Option.some.inj (hn8.symm.trans hnamed)
  cases hmethM.symm.trans hmethM'
  obtain ⟨c2, r2, m2, q1, q2, q3, q4, kP, hkP, hkPi⟩ := Cond.selects_spec hsel
  cases hcls.symm.trans q1
  cases (State.methodFound?_of_named hnamed hy).symm.trans q2
  cases hnamed.symm.trans q3
  have hselP : selectMethod e.platform s.vm cellB.cls mk = .method mk := by rw [Launch.admits_selectMethod X.admits]; exact q4
  obtain ⟨vm₁, X₁, hstep₁⟩ := X.invokevirtual hexec hown hlink hnamed hmethM hstM hkP hkPi hy (a := b) (cell := cellB) hcell
    (fun z h => by rw [h] at hobj; cases hobj) hselP hmethM habM hkP hkPi (g := g) hg (argsL := argsL) (rest := rest) (hlen _ hsigM) hstack hdg
  rcases hK m meth c ⟨T.setVm vm₁, locs, cells, slots⟩ { g with stack := rest } (.invokevirtual index) mk (Value.ref b :: argsL).toArray X₁ hg hsize hdg hW (X₁.named hnamed) (hpre vm₁ X₁.warmed) with ⟨v, B, X', hpost, hsteps⟩ | ⟨q, B, X', hpost, hsteps⟩
  · exact Or.inl ⟨v, vm₁, B, X₁.warmed, X', hpost, fun target h => hstep₁ _ fun acts => by rw [doInvoke_state]; exact hsteps.trans h⟩
  · exact Or.inr ⟨q, vm₁, B, X₁.warmed, X', hpost, hstep₁ _ fun acts => by rw [doInvoke_state]; exact hsteps⟩
theorem vx_callSX (X : Stand p l e R s m args below meth c T locs cells slots) (hexec : p.tables.exec = Jvm.exec) {own : String} {index : Nat} {y : MethodName} {bytes : ByteArray} {maxL : Nat} {ret : Option FieldType} {hh : List (Nat × Nat × Nat × Nat)}
    (hown : s.vm.findClass own = some m.cls) (hlink : (Cond.methodLink own index y).before args s = true) (hstat : (Cond.static y).before args s = true) (hinit : (Cond.initialized y.cls).before args s = true)
    (hcode : (Cond.codeWith y bytes maxL ret hh).before args s = true) (hy : y.cls ≠ "java/lang/invoke/MethodHandle" ∧ y.cls ≠ "java/lang/invoke/VarHandle")
    {W9 : Nat} {Pre : Pt → Array Value → Prop} {Post : Pt → Array Value → Option Value → Pt → Prop} {PostX : Pt → Array Value → Addr → Pt → Prop} (hK : vx_Back l R p e below s args y 3 W9 Pre Post PostX)
    {g : JFrame} (hg : g.method = m) (hsize : g.locals.size = c.maxLocals) {argsL rest : List Value} (hlen : ∀ sig, parseMethodDescriptor y.desc = some sig → argsL.length = sig.parameters.length)
    (hstack : g.stack = argsL.reverse ++ rest) (hW : 2 * g.monitorRoom + (rest.map fun v => v.category).sum ≤ W9) (hdg : decode c.code g.pc = .ok (.invokestatic index, 3))
    (hpre : ∀ vm₁, s.WarmedH vm₁ → Pre ⟨T.setVm vm₁, locs, cells, slots⟩ argsL.toArray) :
    (∃ (v : Option Value) (vm₁ : Vm) (B : Pt), s.WarmedH vm₁ ∧ Stand p l e R s m args below meth c B.U B.locs B.cells B.slots ∧ Post ⟨T.setVm vm₁, locs, cells, slots⟩ argsL.toArray v B ∧
      ∀ target, Steps p.tables e below (B.U.setTop { g with pc := g.pc + 3, stack := v.toList ++ rest }) target → Steps p.tables e below (T.setTop g) target) ∨
    (∃ (q : Addr) (vm₁ : Vm) (B : Pt), s.WarmedH vm₁ ∧ Stand p l e R s m args below meth c B.U B.locs B.cells B.slots ∧ PostX ⟨T.setVm vm₁, locs, cells, slots⟩ argsL.toArray q B ∧
      Steps p.tables e below (T.setTop g) ((B.U.setTop { g with stack := rest }).pushFrame (.throwing q))) := by
  obtain ⟨mk, methM, cM, hnamed, hmethM, -, -, -, -, -, -, hsigM⟩ := Cond.codeWith_spec hcode
  have hstatic : methM.isStatic = true := Cond.static_spec hnamed hmethM hstat
  obtain ⟨kP, hkP, -⟩ := className_of_methodNamed hnamed
  have hinitP : kP.init = .initialized := Cond.initialized_spec (findClass_of_methodNamed hnamed) hkP hinit
  obtain ⟨vm₁, X₁, hstep₁⟩ := X.invokestatic hexec hown hlink hnamed hmethM hstatic hkP hinitP hy (g := g) hg (argsL := argsL) (rest := rest) (hlen _ hsigM) hstack hdg
  rcases hK m meth c ⟨T.setVm vm₁, locs, cells, slots⟩ { g with stack := rest } (.invokestatic index) mk argsL.toArray X₁ hg hsize hdg hW (X₁.named hnamed) (hpre vm₁ X₁.warmed) with ⟨v, B, X', hpost, hsteps⟩ | ⟨q, B, X', hpost, hsteps⟩
  · exact Or.inl ⟨v, vm₁, B, X₁.warmed, X', hpost, fun target h => hstep₁ _ fun acts => by rw [doInvoke_state]; exact hsteps.trans h⟩
  · exact Or.inr ⟨q, vm₁, B, X₁.warmed, X', hpost, hstep₁ _ fun acts => by rw [doInvoke_state]; exact hsteps⟩
theorem vx_callVW (X : Stand p l e R s m args below meth c T locs cells slots) (hexec : p.tables.exec = Jvm.exec) {own C : String} {index : Nat} {y : MethodName} {bytes : ByteArray} {maxL : Nat} {ret : Option FieldType} {hh : List (Nat × Nat × Nat × Nat)}
    (hown : s.vm.findClass own = some m.cls) (hlink : (Cond.methodLink own index y).before args s = true) (hinst : (Cond.instanceMethod y).before args s = true) (hsel : (Cond.selects C y y).before args s = true)
    (hcode : (Cond.codeWith y bytes maxL ret hh).before args s = true) (hy : y.cls ≠ "java/lang/invoke/MethodHandle" ∧ y.cls ≠ "java/lang/invoke/VarHandle")
    {W9 : Nat} {Pre : Pt → Array Value → Prop} {Post : Pt → Array Value → Option Value → Pt → Prop} (hK : Back l R p e below s args y 3 W9 Pre Post)
    {b : Addr} {cellB : Cell} (hcell : T.heap[b]? = some cellB) (hobj : cellB.vm.isStatics = false) (hcls : s.vm.findClass C = some cellB.cls)
    {g : JFrame} (hg : g.method = m) (hsize : g.locals.size = c.maxLocals) {argsL rest : List Value} (hlen : ∀ sig, parseMethodDescriptor y.desc = some sig → argsL.length = sig.parameters.length)
    (hstack : g.stack = argsL.reverse ++ .ref b :: rest) (hW : 2 * g.monitorRoom + (rest.map fun v => v.category).sum ≤ W9) (hdg : decode c.code g.pc = .ok (.invokevirtual index, 3))
    (hpre : ∀ vm₁, s.WarmedH vm₁ → Pre ⟨T.setVm vm₁, locs, cells, slots⟩ (Value.ref b :: argsL).toArray) :
    ∃ (v : Option Value) (vm₁ : Vm) (B : Pt), s.WarmedH vm₁ ∧ Stand p l e R s m args below meth c B.U B.locs B.cells B.slots ∧ Post ⟨T.setVm vm₁, locs, cells, slots⟩ (Value.ref b :: argsL).toArray v B ∧
      ∀ target, Steps p.tables e below (B.U.setTop { g with pc := g.pc + 3, stack := v.toList ++ rest }) target → Steps p.tables e below (T.setTop g) target := by
  obtain ⟨mk, methM, hnamed, hmethM, hstM, habM⟩ := Cond.instanceMethod_spec hinst
  obtain ⟨m8, methM', cM, hn8, hmethM', -, -, -, -, -, -, hsigM⟩ := Cond.codeWith_spec hcode
  cases Option.some.inj (hn8.symm.trans hnamed)
  cases hmethM.symm.trans hmethM'
  obtain ⟨c2, r2, m2, q1, q2, q3, q4, kP, hkP, hkPi⟩ := Cond.selects_spec hsel
  cases hcls.symm.trans q1
  cases (State.methodFound?_of_named hnamed hy).symm.trans q2
  cases hnamed.symm.trans q3
  have hselP : selectMethod e.platform s.vm cellB.cls mk = .method mk := by rw [Launch.admits_selectMethod X.admits]; exact q4
  obtain ⟨vm₁, X₁, hstep₁⟩ := X.invokevirtual hexec hown hlink hnamed hmethM hstM hkP hkPi hy (a := b) (cell := cellB) hcell
    (fun z h => by rw [h] at hobj; cases hobj) hselP hmethM habM hkP hkPi (g := g) hg (argsL := argsL) (rest := rest) (hlen _ hsigM) hstack hdg
  obtain ⟨v, B, X', hpost, hsteps⟩ := hK m meth c ⟨T.setVm vm₁, locs, cells, slots⟩ { g with stack := rest } (.invokevirtual index) mk (Value.ref b :: argsL).toArray X₁ hg hsize hdg hW (X₁.named hnamed) (hpre vm₁ X₁.warmed)
  exact ⟨v, vm₁, B, X₁.warmed, X', hpost, fun target h => hstep₁ _ fun acts => by rw [doInvoke_state]; exact hsteps.trans h⟩
abbrev vx_CVW (R : Room) (s : State) (args : Array Value) (own C : String) (index : Nat) (y : MethodName) (bytes : ByteArray) (maxL : Nat) (ret : Option FieldType) (hh : List (Nat × Nat × Nat × Nat)) (ws : List Cond) (rm : Room) (mc ms n : Nat) : Prop :=
  (rm.cells = mc ∧ rm.slots = ms ∧ rm.frames + 1 ≤ R.frames ∧ 8 + (maxL + 11) + rm.locals ≤ R.locals ∧ (∀ w ∈ ws, ∀ (a' : Array Value) (U : State), s.WarmedH U.vm → w.before a' U = true) ∧ Cond.codeWith y bytes maxL ret hh ∈ ws) ∧
  (Cond.codeWith y bytes maxL ret hh).before args s = true ∧ (Cond.initialized y.cls).before args s = true ∧ (y.cls ≠ "java/lang/invoke/MethodHandle" ∧ y.cls ≠ "java/lang/invoke/VarHandle") ∧
  (∀ sig, parseMethodDescriptor y.desc = some sig → n = sig.parameters.length) ∧ (Cond.methodLink own index y).before args s = true ∧ (Cond.instanceMethod y).before args s = true ∧ (Cond.selects C y y).before args s = true
theorem vx_cwVW {own C : String} {index maxL mc ms : Nat} {y : MethodName} {bytes : ByteArray} {ret : Option FieldType} {hh : List (Nat × Nat × Nat × Nat)} {Ts ws ws' : List Cond} {rm : Room} (n : Nat) (ht : ∀ w ∈ Ts, w.before args s = true) (hT : GoodIn Ts (wsV own index C y ws)) (hw : ws = Cond.codeWith y bytes maxL ret hh :: ws') (hrc : rm.cells = mc) (hrs : rm.slots = ms)
    (hd : y.cls = C ∧ y.cls ≠ "java/lang/invoke/MethodHandle" ∧ y.cls ≠ "java/lang/invoke/VarHandle" ∧ (parseMethodDescriptor y.desc).map (fun d => d.parameters.length) = some n) (hR : rm.frames + 1 ≤ R.frames ∧ 8 + (maxL + 11) + rm.locals ≤ R.locals) :
    vx_CVW R s args own C index y bytes maxL ret hh ws rm mc ms n := by
  obtain ⟨hC, hd⟩ := hd
  subst hC
  have ok : ∀ w ∈ wsV own index y.cls y ws, w.before args s = true := fun w h => ht w (hT w h).1
  have hG : GoodIn Ts ws := fun w h => hT w (by unfold wsV; exact List.mem_append_right _ h)
  have hc : Cond.codeWith y bytes maxL ret hh ∈ ws := by rw [hw]; exact List.mem_cons_self
  refine ⟨⟨hrc, hrs, hR.1, hR.2, pay_in ht hG, hc⟩, ht _ (hG _ hc).1, ok _ (by simp [wsV]), ⟨hd.1, hd.2.1⟩, fun sig h => ?_, ok _ (by simp [wsV]), ok _ (by simp [wsV]), ok _ (by simp [wsV])⟩
  have h2 := hd.2.2
  rw [h] at h2
  exact (Option.some.inj h2).symm
theorem vx_runVW {y : MethodName} {bytes cc : ByteArray} {maxL nL mc ms n index : Nat} {ret : Option FieldType} {hh : List (Nat × Nat × Nat × Nat)} {ws : List Cond} {rm : Room} {Pc : Array Value → State → Prop} {Qc : Array Value → State → Outcome → State → Prop} {free : Addr → Prop} {Ts : List Cond} {own C : String} {b : Addr} {As rest : List Value} {g : JFrame}
    (S : CallFix p m c cc nL s args Ts own) (hM : Met l y ws rm Pc Qc mc ms free) (cw : vx_CVW R s args own C index y bytes maxL ret hh ws rm mc ms n) (hp : PreV s H C b Pc As)
    (hg : g.method = m) (hn : As.length = n) (hsize : g.locals.size = nL) (hstack : g.stack = As.reverse ++ .ref b :: rest) (hW : 2 * g.monitorRoom + (rest.map fun v => v.category).sum ≤ 8) (hdg : decode cc g.pc = .ok (.invokevirtual index, 3)) (hf : cells + mc ≤ R.cells ∧ slots + ms ≤ R.slots) :
    va_Run p l e R s m args below meth c H locs cells slots mc ms g rest (Qc (Value.ref b :: As).toArray) free := by
  obtain ⟨⟨hrc, hrs, hfr, hlo, hws, hcw⟩, hcode, hini, hy, hlen, hl, hin, hse⟩ := cw
  have hK : Back l R p e below s args y 3 8 (PreOf R mc ms Pc) (PostOf Qc mc ms free) := va_backW (hh := hh) (bytes := bytes) (maxL := maxL) (ret := ret) hM hp.1 hrc hrs hfr hlo hws hcw (fun a' U hW => word_at hW (Or.inl (by first | rfl | simp [Cond.onTables, Cond.keeps, Cond.steady])) hini)
  obtain ⟨hx, hb, hml, ho, -⟩ := S
  obtain ⟨-, ⟨cellB, hcB, hoB, hclB⟩, hPc⟩ := hp
  intro T hT X
  obtain ⟨v, vm₁, ⟨U', l2, c2, s2⟩, hW₁, X', ⟨g', mk, t, L, e1, e2, hq, h1, hL, h2, h3⟩, st⟩ := vx_callVW X hx (C := C) (hh := hh) (bytes := bytes) (maxL := maxL) (ret := ret) ho hl hin hse hcode hy hK (by rw [hT]; exact hcB) hoB hclB hg (hsize.trans hml.symm) (argsL := As) (rest := rest) (fun sig h => hn.trans (hlen sig h)) hstack hW (by rw [hb]; exact hdg)
    (fun vm₁ hW₁ => ⟨hf.1, hf.2, hPc (T.setVm vm₁) hT hW₁⟩)
  dsimp only [Pt.U, Pt.locs, Pt.cells, Pt.slots] at X' e1 e2 h1 h2 h3 st
  subst h1; subst h2; subst h3
  exact ⟨v, (T.setVm vm₁).calling g' mk (Value.ref b :: As).toArray, t, U', L, hT, X', hL, e1, e2, hq, st⟩
section
variable {y : MethodName} {bytes cc : ByteArray} {maxL nL mc ms n index : Nat} {ret : Option FieldType} {ws : List Cond} {rm : Room} {Pc : Array Value → State → Prop} {Qc : Array Value → State → Outcome → State → Prop} {XC : String → State → State → Prop} {free : Addr → Prop} {Ts : List Cond} {own C : String} {b : Addr} {As rest : List Value} {g : JFrame}
theorem vx_runVX {hh : List (Nat × Nat × Nat × Nat)} (S : CallFix p m c cc nL s args Ts own) (hM : vx_Met l y ws rm Pc Qc XC mc ms free) (cw : vx_CVW R s args own C index y bytes maxL ret hh ws rm mc ms n) (hp : PreV s H C b Pc As)
    (hg : g.method = m) (hn : As.length = n) (hsize : g.locals.size = nL) (hstack : g.stack = As.reverse ++ .ref b :: rest) (hW : 2 * g.monitorRoom + (rest.map fun v => v.category).sum ≤ 8) (hdg : decode cc g.pc = .ok (.invokevirtual index, 3)) (hf : cells + mc ≤ R.cells ∧ slots + ms ≤ R.slots) :
    vx_Run p l e R s m args below meth c H locs cells slots mc ms g rest (Qc (Value.ref b :: As).toArray) XC free := by
  obtain ⟨⟨hrc, hrs, hfr, hlo, hws, hcw⟩, hcode, hini, hy, hlen, hl, hin, hse⟩ := cw
  have hK : vx_Back l R p e below s args y 3 8 (PreOf R mc ms Pc) (PostOf Qc mc ms free) (vx_Post XC mc ms free) := vx_backW (hh := hh) (bytes := bytes) (maxL := maxL) (ret := ret) hM hp.1 hrc hrs hfr hlo hws hcw (fun a' U hW => word_at hW (Or.inl (by first | rfl | simp [Cond.onTables, Cond.keeps, Cond.steady])) hini)
  obtain ⟨hx, hb, hml, ho, -⟩ := S
  obtain ⟨-, ⟨cellB, hcB, hoB, hclB⟩, hPc⟩ := hp
  intro T hT X
  rcases vx_callVX X hx (C := C) (hh := hh) (bytes := bytes) (maxL := maxL) (ret := ret) ho hl hin hse hcode hy hK (by rw [hT]; exact hcB) hoB hclB hg (hsize.trans hml.symm) (argsL := As) (rest := rest) (fun sig h => hn.trans (hlen sig h)) hstack hW (by rw [hb]; exact hdg)
    (fun vm₁ hW₁ => ⟨hf.1, hf.2, hPc (T.setVm vm₁) hT hW₁⟩) with ⟨v, vm₁, ⟨U', l2, c2, s2⟩, hW₁, X', ⟨g', mk, t, L, e1, e2, hq, h1, hL, h2, h3⟩, st⟩ | ⟨q, vm₁, ⟨U', l2, c2, s2⟩, hW₁, X', ⟨g', mk, t, L, E, ce, e1, e2, hq, hce, hcv, hcl, h1, hL, h2, h3⟩, st⟩
  · dsimp only [Pt.U, Pt.locs, Pt.cells, Pt.slots] at X' e1 e2 h1 h2 h3 st
    subst h1; subst h2; subst h3
    exact Or.inl ⟨v, (T.setVm vm₁).calling g' mk (Value.ref b :: As).toArray, t, U', L, hT, X', hL, e1, e2, hq, st⟩
  · dsimp only [Pt.U, Pt.locs, Pt.cells, Pt.slots] at X' e1 e2 h1 h2 h3 st hcl
    subst h1; subst h2; subst h3
    exact Or.inr ⟨q, (T.setVm vm₁).calling g' mk (Value.ref b :: As).toArray, t, U', L, E, ce, hT, X', hL, e1, e2, hq, hce, hcv, vx_cls hW₁ hcl, st⟩
theorem vx_runSX {hh : List (Nat × Nat × Nat × Nat)} (S : CallFix p m c cc nL s args Ts own) (hM : vx_Met l y ws rm Pc Qc XC mc ms free) (cw : vx_CSW R s args own index y bytes maxL ret hh ws rm mc ms n) (hp : PreS s H Pc As)
    (hg : g.method = m) (hn : As.length = n) (hsize : g.locals.size = nL) (hstack : g.stack = As.reverse ++ rest) (hW : 2 * g.monitorRoom + (rest.map fun v => v.category).sum ≤ 8) (hdg : decode cc g.pc = .ok (.invokestatic index, 3)) (hf : cells + mc ≤ R.cells ∧ slots + ms ≤ R.slots) :
    vx_Run p l e R s m args below meth c H locs cells slots mc ms g rest (Qc As.toArray) XC free := by
  obtain ⟨⟨hrc, hrs, hfr, hlo, hws, hcw⟩, hcode, hini, hy, hlen, hl, hstt⟩ := cw
  have hK : vx_Back l R p e below s args y 3 8 (PreOf R mc ms Pc) (PostOf Qc mc ms free) (vx_Post XC mc ms free) := vx_backW (hh := hh) (bytes := bytes) (maxL := maxL) (ret := ret) hM hp.1 hrc hrs hfr hlo hws hcw (fun a' U hW => word_at hW (Or.inl (by first | rfl | simp [Cond.onTables, Cond.keeps, Cond.steady])) hini)
  obtain ⟨hx, hb, hml, ho, -⟩ := S
  intro T hT X
  rcases vx_callSX X hx (hh := hh) (bytes := bytes) (maxL := maxL) (ret := ret) ho hl hstt hini hcode hy hK hg (hsize.trans hml.symm) (argsL := As) (rest := rest) (fun sig h => hn.trans (hlen sig h)) hstack hW (by rw [hb]; exact hdg)
    (fun vm₁ hW₁ => ⟨hf.1, hf.2, hp.2 (T.setVm vm₁) hT hW₁⟩) with ⟨v, vm₁, ⟨U', l2, c2, s2⟩, hW₁, X', ⟨g', mk, t, L, e1, e2, hq, h1, hL, h2, h3⟩, st⟩ | ⟨q, vm₁, ⟨U', l2, c2, s2⟩, hW₁, X', ⟨g', mk, t, L, E, ce, e1, e2, hq, hce, hcv, hcl, h1, hL, h2, h3⟩, st⟩
  · dsimp only [Pt.U, Pt.locs, Pt.cells, Pt.slots] at X' e1 e2 h1 h2 h3 st
    subst h1; subst h2; subst h3
    exact Or.inl ⟨v, (T.setVm vm₁).calling g' mk As.toArray, t, U', L, hT, X', hL, e1, e2, hq, st⟩
  · dsimp only [Pt.U, Pt.locs, Pt.cells, Pt.slots] at X' e1 e2 h1 h2 h3 st hcl
    subst h1; subst h2; subst h3
    exact Or.inr ⟨q, (T.setVm vm₁).calling g' mk As.toArray, t, U', L, E, ce, hT, X', hL, e1, e2, hq, hce, hcv, vx_cls hW₁ hcl, st⟩
end
end VXH
theorem vx_ofWH {l : Launch} {y : MethodName} {ws ws' : List Cond} {rm : Room} {Pc : Array Value → State → Prop} {Qc : Array Value → State → Outcome → State → Prop} {XC : String → State → State → Prop} {mc ms : Nat} {free : Addr → Prop} {cc : ByteArray} {maxL : Nat} {ret : Option FieldType} {hh : List (Nat × Nat × Nat × Nat)}
    (hy : plainName y.cls = true) (hw : ws = Cond.codeWith y cc maxL ret hh :: ws')
    (body : ∀ p e s m args below meth c s₁, BodyLoose p l y (headSpec ws rm) cc maxL ret e s m args below meth c s₁ → c.maxLocals = maxL → Pc args s →
      W p l e (headSpec ws rm).room s m args below meth c s.heap [] 0 0 (vx_MQ below Qc XC args s mc ms free) (entryFrame m args maxL)) : vx_Met l y ws rm Pc Qc XC mc ms free := by
  refine MetFree.of_bodyS (code := cc) (maxLocals := maxL) (ret := ret) hy ?_ ?_
  · intro args s m h hn
    obtain ⟨m9, meth, c, hn9, h1, h2, h3, h4, -, h5, h6, -⟩ := Cond.codeWith_spec (atoms_spec (ws := ws) h _ (by rw [hw]; exact List.mem_cons_self))
    cases hn.symm.trans hn9
    exact ⟨meth, c, h1, h2, h3, h4, h5, h6⟩
  · intro p e s m args below meth c s₁ B hml hP _
    have hh0 : s₁.heap = s.heap := by rw [B.state]; rfl
    obtain ⟨t, a1, o, b1, b2, b3⟩ := body p e s m args below meth c s₁ B hml hP s₁ hh0 (Stand.of_body B)
    exact ⟨t, o, a1, b1, b2, b3⟩
/-! ===== END ===== -/

/-! ===== BEGIN printed: names, fields, word lists, decode rows ===== -/
def RX0 : String := "ReadingChart$Chart"
def TX0 : u_T := fun k => match k with
  | 0 => ("ReadingChart$Chart", "size", "I", false)
  | 1 => ("ReadingChart$Chart", "filled", "[I", true)
  | 2 => ("ReadingChart$Chart", "category", "[I", true)
  | 3 => ("ReadingChart$Chart", "features", "[I", true)
  | 4 => ("ReadingChart$Chart", "price", "[I", true)
  | 5 => ("ReadingChart$Chart", "rule", "[I", true)
  | 6 => ("ReadingChart$Chart", "leftPart", "[I", true)
  | 7 => ("ReadingChart$Chart", "rightPart", "[I", true)
  | _ => ("ReadingChart$Chart", "relaxed", "[I", true)
def tyX0 : Nat → FieldType := fun k => match k with
  | 0 => .int
  | 1 => .array .int
  | 2 => .array .int
  | 3 => .array .int
  | 4 => .array .int
  | 5 => .array .int
  | 6 => .array .int
  | 7 => .array .int
  | _ => .array .int
abbrev wsX00 : List Cond := u_ws RX0 TX0 9
theorem nmX0 : ∀ a, a < 9 → ∀ b, b < 9 → a ≠ b → (TX0 a).2.1 ≠ (TX0 b).2.1 := by decide +kernel
theorem tyX0_ok : ∀ k, k < 9 → parseFieldDescriptor (TX0 k).2.2.1 = some (tyX0 k) := by decide +kernel
abbrev cX0_init : ByteArray := prog_2_method_1_code
def yX0_init : MethodName := ⟨RX0, "<init>", "()V"⟩
abbrev cX0_clear : ByteArray := prog_2_method_2_code
def yX0_clear : MethodName := ⟨RX0, "clear", "(I)V"⟩
abbrev cX0_edgesOf : ByteArray := prog_2_method_3_code
def yX0_edgesOf : MethodName := ⟨RX0, "edgesOf", "(I)I"⟩
abbrev cX0_add : ByteArray := prog_2_method_4_code
def yX0_add : MethodName := ⟨RX0, "add", "(IIII)I"⟩
abbrev cX0_tellUse : ByteArray := prog_2_method_5_code
def yX0_tellUse : MethodName := ⟨RX0, "tellUse", "(IIIII)V"⟩
abbrev cX0_categoryOf : ByteArray := prog_2_method_6_code
def yX0_categoryOf : MethodName := ⟨RX0, "categoryOf", "(I)I"⟩
abbrev cX0_featuresOf : ByteArray := prog_2_method_7_code
def yX0_featuresOf : MethodName := ⟨RX0, "featuresOf", "(I)I"⟩
abbrev cX0_priceOf : ByteArray := prog_2_method_8_code
def yX0_priceOf : MethodName := ⟨RX0, "priceOf", "(I)I"⟩
abbrev cX0_ruleOf : ByteArray := prog_2_method_9_code
def yX0_ruleOf : MethodName := ⟨RX0, "ruleOf", "(I)I"⟩
abbrev cX0_partOf : ByteArray := prog_2_method_10_code
def yX0_partOf : MethodName := ⟨RX0, "partOf", "(II)I"⟩
abbrev cX0_readingOf : ByteArray := prog_2_method_11_code
def yX0_readingOf : MethodName := ⟨RX0, "readingOf", "(I)I"⟩
abbrev cX0_headOf : ByteArray := prog_2_method_12_code
def yX0_headOf : MethodName := ⟨RX0, "headOf", "(ILReadingChart$Grammar;)I"⟩
abbrev cX0_relaxedBits : ByteArray := prog_2_method_13_code
def yX0_relaxedBits : MethodName := ⟨RX0, "relaxedBits", "(II)I"⟩
abbrev cX0_isRelaxed : ByteArray := prog_2_method_14_code
def yX0_isRelaxed : MethodName := ⟨RX0, "isRelaxed", "(II)Z"⟩
abbrev cX0_oneThen : ByteArray := prog_2_method_15_code
def yX0_oneThen : MethodName := ⟨RX0, "oneThen", "(II)I"⟩
abbrev cX0_otherThen : ByteArray := prog_2_method_16_code
def yX0_otherThen : MethodName := ⟨RX0, "otherThen", "(II)I"⟩
abbrev cX0_cheapest : ByteArray := prog_2_method_17_code
def yX0_cheapest : MethodName := ⟨RX0, "cheapest", "(II)I"⟩
abbrev cX0_wholeEdge : ByteArray := prog_2_method_18_code
def yX0_wholeEdge : MethodName := ⟨RX0, "wholeEdge", "()I"⟩
abbrev cX0_wholePrice : ByteArray := prog_2_method_19_code
def yX0_wholePrice : MethodName := ⟨RX0, "wholePrice", "()I"⟩
def RX1 : String := "ReadingChart$Fragments"
def TX1 : u_T := fun k => match k with
  | 0 => ("ReadingChart$Fragments", "size", "I", false)
  | 1 => ("ReadingChart$Fragments", "fewest", "[I", true)
  | 2 => ("ReadingChart$Fragments", "price", "[I", true)
  | _ => ("ReadingChart$Fragments", "words", "[I", true)
def tyX1 : Nat → FieldType := fun k => match k with
  | 0 => .int
  | 1 => .array .int
  | 2 => .array .int
  | _ => .array .int
abbrev wsX10 : List Cond := u_ws RX1 TX1 4
theorem nmX1 : ∀ a, a < 4 → ∀ b, b < 4 → a ≠ b → (TX1 a).2.1 ≠ (TX1 b).2.1 := by decide +kernel
theorem tyX1_ok : ∀ k, k < 4 → parseFieldDescriptor (TX1 k).2.2.1 = some (tyX1 k) := by decide +kernel
abbrev cX1_init : ByteArray := prog_3_method_1_code
def yX1_init : MethodName := ⟨RX1, "<init>", "()V"⟩
abbrev cX1_cut : ByteArray := prog_3_method_2_code
def yX1_cut : MethodName := ⟨RX1, "cut", "(LReadingChart$Chart;)V"⟩
abbrev cX1_weigh : ByteArray := prog_3_method_3_code
def yX1_weigh : MethodName := ⟨RX1, "weigh", "(LReadingChart$Chart;II)V"⟩
abbrev cX1_pieces : ByteArray := prog_3_method_4_code
def yX1_pieces : MethodName := ⟨RX1, "pieces", "()I"⟩
abbrev cX1_placeOf : ByteArray := prog_3_method_5_code
def yX1_placeOf : MethodName := ⟨RX1, "placeOf", "(I)I"⟩
abbrev cX1_wordsFrom : ByteArray := prog_3_method_6_code
def yX1_wordsFrom : MethodName := ⟨RX1, "wordsFrom", "(I)I"⟩
def RX2 : String := "ReadingChart$Grammar"
def TX2 : u_T := fun k => match k with
  | 0 => ("ReadingChart$Grammar", "size", "I", false)
  | 1 => ("ReadingChart$Grammar", "parent", "[I", true)
  | 2 => ("ReadingChart$Grammar", "leftPart", "[I", true)
  | 3 => ("ReadingChart$Grammar", "rightPart", "[I", true)
  | 4 => ("ReadingChart$Grammar", "headSide", "[I", true)
  | 5 => ("ReadingChart$Grammar", "singles", "I", false)
  | 6 => ("ReadingChart$Grammar", "single", "[I", true)
  | 7 => ("ReadingChart$Grammar", "equations", "[I", true)
  | 8 => ("ReadingChart$Grammar", "feature", "[I", true)
  | 9 => ("ReadingChart$Grammar", "one", "[I", true)
  | 10 => ("ReadingChart$Grammar", "other", "[I", true)
  | 11 => ("ReadingChart$Grammar", "price", "[I", true)
  | 12 => ("ReadingChart$Grammar", "sides", "[I", true)
  | 13 => ("ReadingChart$Grammar", "paid", "I", false)
  | _ => ("ReadingChart$Grammar", "relaxed", "I", false)
def tyX2 : Nat → FieldType := fun k => match k with
  | 0 => .int
  | 1 => .array .int
  | 2 => .array .int
  | 3 => .array .int
  | 4 => .array .int
  | 5 => .int
  | 6 => .array .int
  | 7 => .array .int
  | 8 => .array .int
  | 9 => .array .int
  | 10 => .array .int
  | 11 => .array .int
  | 12 => .array .int
  | 13 => .int
  | _ => .int
abbrev wsX20 : List Cond := u_ws RX2 TX2 15
theorem nmX2 : ∀ a, a < 15 → ∀ b, b < 15 → a ≠ b → (TX2 a).2.1 ≠ (TX2 b).2.1 := by decide +kernel
theorem tyX2_ok : ∀ k, k < 15 → parseFieldDescriptor (TX2 k).2.2.1 = some (tyX2 k) := by decide +kernel
abbrev cX2_init : ByteArray := prog_4_method_1_code
def yX2_init : MethodName := ⟨RX2, "<init>", "()V"⟩
abbrev cX2_isFull : ByteArray := prog_4_method_2_code
def yX2_isFull : MethodName := ⟨RX2, "isFull", "()Z"⟩
abbrev cX2_hasRule : ByteArray := prog_4_method_3_code
def yX2_hasRule : MethodName := ⟨RX2, "hasRule", "(I)Z"⟩
abbrev cX2_isRuleFull : ByteArray := prog_4_method_4_code
def yX2_isRuleFull : MethodName := ⟨RX2, "isRuleFull", "(I)Z"⟩
abbrev cX2_addRule : ByteArray := prog_4_method_5_code
def yX2_addRule : MethodName := ⟨RX2, "addRule", "(IIII)I"⟩
abbrev cX2_addSingle : ByteArray := prog_4_method_6_code
def yX2_addSingle : MethodName := ⟨RX2, "addSingle", "(II)V"⟩
abbrev cX2_addEquation : ByteArray := prog_4_method_7_code
def yX2_addEquation : MethodName := ⟨RX2, "addEquation", "(IIIII)I"⟩
abbrev cX2_singleAt : ByteArray := prog_4_method_8_code
def yX2_singleAt : MethodName := ⟨RX2, "singleAt", "(I)I"⟩
abbrev cX2_parentOf : ByteArray := prog_4_method_9_code
def yX2_parentOf : MethodName := ⟨RX2, "parentOf", "(I)I"⟩
abbrev cX2_leftOf : ByteArray := prog_4_method_10_code
def yX2_leftOf : MethodName := ⟨RX2, "leftOf", "(I)I"⟩
abbrev cX2_rightOf : ByteArray := prog_4_method_11_code
def yX2_rightOf : MethodName := ⟨RX2, "rightOf", "(I)I"⟩
abbrev cX2_headOf : ByteArray := prog_4_method_12_code
def yX2_headOf : MethodName := ⟨RX2, "headOf", "(I)I"⟩
abbrev cX2_slotOf : ByteArray := prog_4_method_13_code
def yX2_slotOf : MethodName := ⟨RX2, "slotOf", "(II)I"⟩
abbrev cX2_featureOf : ByteArray := prog_4_method_14_code
def yX2_featureOf : MethodName := ⟨RX2, "featureOf", "(II)I"⟩
abbrev cX2_oneOf : ByteArray := prog_4_method_15_code
def yX2_oneOf : MethodName := ⟨RX2, "oneOf", "(II)I"⟩
abbrev cX2_otherOf : ByteArray := prog_4_method_16_code
def yX2_otherOf : MethodName := ⟨RX2, "otherOf", "(II)I"⟩
abbrev cX2_unify : ByteArray := prog_4_method_17_code
def yX2_unify : MethodName := ⟨RX2, "unify", "(III)Z"⟩
abbrev cX2_settle : ByteArray := prog_4_method_18_code
def yX2_settle : MethodName := ⟨RX2, "settle", "(IIII)Z"⟩
abbrev cX2_parentFeatures : ByteArray := prog_4_method_19_code
def yX2_parentFeatures : MethodName := ⟨RX2, "parentFeatures", "()I"⟩
def RX3 : String := "ReadingChart$Lexicon"
def TX3 : u_T := fun k => match k with
  | 0 => ("ReadingChart$Lexicon", "size", "I", false)
  | 1 => ("ReadingChart$Lexicon", "ending", "[I", true)
  | 2 => ("ReadingChart$Lexicon", "filled", "[I", true)
  | 3 => ("ReadingChart$Lexicon", "lemma", "[I", true)
  | 4 => ("ReadingChart$Lexicon", "category", "[I", true)
  | _ => ("ReadingChart$Lexicon", "features", "[I", true)
def tyX3 : Nat → FieldType := fun k => match k with
  | 0 => .int
  | 1 => .array .int
  | 2 => .array .int
  | 3 => .array .int
  | 4 => .array .int
  | _ => .array .int
abbrev wsX30 : List Cond := u_ws RX3 TX3 6
theorem nmX3 : ∀ a, a < 6 → ∀ b, b < 6 → a ≠ b → (TX3 a).2.1 ≠ (TX3 b).2.1 := by decide +kernel
theorem tyX3_ok : ∀ k, k < 6 → parseFieldDescriptor (TX3 k).2.2.1 = some (tyX3 k) := by decide +kernel
abbrev cX3_init : ByteArray := prog_5_method_1_code
def yX3_init : MethodName := ⟨RX3, "<init>", "()V"⟩
abbrev cX3_hasWord : ByteArray := prog_5_method_2_code
def yX3_hasWord : MethodName := ⟨RX3, "hasWord", "(I)Z"⟩
abbrev cX3_isFull : ByteArray := prog_5_method_3_code
def yX3_isFull : MethodName := ⟨RX3, "isFull", "()Z"⟩
abbrev cX3_addWord : ByteArray := prog_5_method_4_code
def yX3_addWord : MethodName := ⟨RX3, "addWord", "(I)I"⟩
abbrev cX3_isRowFull : ByteArray := prog_5_method_5_code
def yX3_isRowFull : MethodName := ⟨RX3, "isRowFull", "(I)Z"⟩
abbrev cX3_addToRow : ByteArray := prog_5_method_6_code
def yX3_addToRow : MethodName := ⟨RX3, "addToRow", "(IIII)I"⟩
abbrev cX3_rowOf : ByteArray := prog_5_method_7_code
def yX3_rowOf : MethodName := ⟨RX3, "rowOf", "(I)I"⟩
abbrev cX3_filledIn : ByteArray := prog_5_method_8_code
def yX3_filledIn : MethodName := ⟨RX3, "filledIn", "(I)I"⟩
abbrev cX3_categoryIn : ByteArray := prog_5_method_9_code
def yX3_categoryIn : MethodName := ⟨RX3, "categoryIn", "(II)I"⟩
abbrev cX3_featuresIn : ByteArray := prog_5_method_10_code
def yX3_featuresIn : MethodName := ⟨RX3, "featuresIn", "(II)I"⟩
abbrev cX3_lemmaOf : ByteArray := prog_5_method_11_code
def yX3_lemmaOf : MethodName := ⟨RX3, "lemmaOf", "(II)I"⟩
abbrev cX3_lowestTold : ByteArray := prog_5_method_12_code
def yX3_lowestTold : MethodName := ⟨RX3, "lowestTold", "(III)I"⟩
def RX4 : String := "ReadingChart$Reader"
def TX4 : u_T := fun k => match k with
  | _ => ("", "", "", false)
def tyX4 : Nat → FieldType := fun k => match k with
  | _ => .int
abbrev wsX40 : List Cond := u_ws RX4 TX4 0
theorem nmX4 : ∀ a, a < 0 → ∀ b, b < 0 → a ≠ b → (TX4 a).2.1 ≠ (TX4 b).2.1 := by decide +kernel
theorem tyX4_ok : ∀ k, k < 0 → parseFieldDescriptor (TX4 k).2.2.1 = some (tyX4 k) := by decide +kernel
abbrev cX4_init : ByteArray := prog_6_method_1_code
def yX4_init : MethodName := ⟨RX4, "<init>", "()V"⟩
abbrev cX4_read : ByteArray := prog_6_method_2_code
def yX4_read : MethodName := ⟨RX4, "read", "(LReadingChart$Grammar;LReadingChart$Sentence;)V"⟩
abbrev cX4_readWord : ByteArray := prog_6_method_3_code
def yX4_readWord : MethodName := ⟨RX4, "readWord", "(LReadingChart$Sentence;I)V"⟩
abbrev cX4_use : ByteArray := prog_6_method_4_code
def yX4_use : MethodName := ⟨RX4, "use", "(LReadingChart$Grammar;ILReadingChart$Chart;III)V"⟩
def RX5 : String := "ReadingChart$Referring"
def TX5 : u_T := fun k => match k with
  | 0 => ("ReadingChart$Referring", "sentence", "I", false)
  | 1 => ("ReadingChart$Referring", "place", "I", false)
  | _ => ("ReadingChart$Referring", "given", "I", false)
def tyX5 : Nat → FieldType := fun k => match k with
  | 0 => .int
  | 1 => .int
  | _ => .int
abbrev wsX50 : List Cond := u_ws RX5 TX5 3
theorem nmX5 : ∀ a, a < 3 → ∀ b, b < 3 → a ≠ b → (TX5 a).2.1 ≠ (TX5 b).2.1 := by decide +kernel
theorem tyX5_ok : ∀ k, k < 3 → parseFieldDescriptor (TX5 k).2.2.1 = some (tyX5 k) := by decide +kernel
abbrev cX5_init : ByteArray := prog_7_method_1_code
def yX5_init : MethodName := ⟨RX5, "<init>", "()V"⟩
abbrev cX5_lookIn : ByteArray := prog_7_method_2_code
def yX5_lookIn : MethodName := ⟨RX5, "lookIn", "(LReadingChart$Sentence;III)Z"⟩
abbrev cX5_agree : ByteArray := prog_7_method_3_code
def yX5_agree : MethodName := ⟨RX5, "agree", "(II)Z"⟩
def RX6 : String := "ReadingChart$Sentence"
def TX6 : u_T := fun k => match k with
  | 0 => ("ReadingChart$Sentence", "size", "I", false)
  | 1 => ("ReadingChart$Sentence", "words", "[I", true)
  | 2 => ("ReadingChart$Sentence", "left", "[I", true)
  | 3 => ("ReadingChart$Sentence", "given", "[I", true)
  | 4 => ("ReadingChart$Sentence", "category", "[I", true)
  | 5 => ("ReadingChart$Sentence", "features", "[I", true)
  | 6 => ("ReadingChart$Sentence", "chart", "LReadingChart$Chart;", true)
  | 7 => ("ReadingChart$Sentence", "struck", "Z", false)
  | _ => ("ReadingChart$Sentence", "outdated", "Z", false)
def tyX6 : Nat → FieldType := fun k => match k with
  | 0 => .int
  | 1 => .array .int
  | 2 => .array .int
  | 3 => .array .int
  | 4 => .array .int
  | 5 => .array .int
  | 6 => .object "ReadingChart$Chart"
  | 7 => .boolean
  | _ => .boolean
abbrev wsX60 : List Cond := u_ws RX6 TX6 9
theorem nmX6 : ∀ a, a < 9 → ∀ b, b < 9 → a ≠ b → (TX6 a).2.1 ≠ (TX6 b).2.1 := by decide +kernel
theorem tyX6_ok : ∀ k, k < 9 → parseFieldDescriptor (TX6 k).2.2.1 = some (tyX6 k) := by decide +kernel
abbrev cX6_init : ByteArray := prog_8_method_1_code
def yX6_init : MethodName := ⟨RX6, "<init>", "()V"⟩
abbrev cX6_isFull : ByteArray := prog_8_method_2_code
def yX6_isFull : MethodName := ⟨RX6, "isFull", "()Z"⟩
abbrev cX6_outdate : ByteArray := prog_8_method_3_code
def yX6_outdate : MethodName := ⟨RX6, "outdate", "()V"⟩
abbrev cX6_wordIn : ByteArray := prog_8_method_4_code
def yX6_wordIn : MethodName := ⟨RX6, "wordIn", "(I)I"⟩
abbrev cX6_leftIn : ByteArray := prog_8_method_5_code
def yX6_leftIn : MethodName := ⟨RX6, "leftIn", "(I)I"⟩
abbrev cX6_addWord : ByteArray := prog_8_method_6_code
def yX6_addWord : MethodName := ⟨RX6, "addWord", "(I)V"⟩
abbrev cX6_putWord : ByteArray := prog_8_method_7_code
def yX6_putWord : MethodName := ⟨RX6, "putWord", "(II)V"⟩
abbrev cX6_takeOut : ByteArray := prog_8_method_8_code
def yX6_takeOut : MethodName := ⟨RX6, "takeOut", "(I)V"⟩
abbrev cX6_copyWords : ByteArray := prog_8_method_9_code
def yX6_copyWords : MethodName := ⟨RX6, "copyWords", "(LReadingChart$Sentence;)V"⟩
abbrev cX6_leaveAll : ByteArray := prog_8_method_10_code
def yX6_leaveAll : MethodName := ⟨RX6, "leaveAll", "(LReadingChart$Lexicon;)V"⟩
abbrev cX6_strikeOut : ByteArray := prog_8_method_11_code
def yX6_strikeOut : MethodName := ⟨RX6, "strikeOut", "(II)V"⟩
abbrev cX6_isLeft : ByteArray := prog_8_method_12_code
def yX6_isLeft : MethodName := ⟨RX6, "isLeft", "(II)Z"⟩
abbrev cX6_categoryOf : ByteArray := prog_8_method_13_code
def yX6_categoryOf : MethodName := ⟨RX6, "categoryOf", "(II)I"⟩
abbrev cX6_featuresOf : ByteArray := prog_8_method_14_code
def yX6_featuresOf : MethodName := ⟨RX6, "featuresOf", "(II)I"⟩
abbrev cX6_leftOf : ByteArray := prog_8_method_15_code
def yX6_leftOf : MethodName := ⟨RX6, "leftOf", "(II)I"⟩
abbrev cX6_firstOf : ByteArray := prog_8_method_16_code
def yX6_firstOf : MethodName := ⟨RX6, "firstOf", "(II)I"⟩
abbrev cX6_isGiven : ByteArray := prog_8_method_17_code
def yX6_isGiven : MethodName := ⟨RX6, "isGiven", "([I)Z"⟩
abbrev cX6_giveAll : ByteArray := prog_8_method_18_code
def yX6_giveAll : MethodName := ⟨RX6, "giveAll", "([I)V"⟩
abbrev cX6_featuresAsGiven : ByteArray := prog_8_method_19_code
def yX6_featuresAsGiven : MethodName := ⟨RX6, "featuresAsGiven", "(II)I"⟩
def RX7 : String := "ReadingChart$Striking"
def TX7 : u_T := fun k => match k with
  | 0 => ("ReadingChart$Striking", "size", "I", false)
  | 1 => ("ReadingChart$Striking", "isSure", "[Z", true)
  | 2 => ("ReadingChart$Striking", "category", "[I", true)
  | 3 => ("ReadingChart$Striking", "step", "[I", true)
  | 4 => ("ReadingChart$Striking", "other", "[I", true)
  | _ => ("ReadingChart$Striking", "barrier", "[I", true)
def tyX7 : Nat → FieldType := fun k => match k with
  | 0 => .int
  | 1 => .array .boolean
  | 2 => .array .int
  | 3 => .array .int
  | 4 => .array .int
  | _ => .array .int
abbrev wsX70 : List Cond := u_ws RX7 TX7 6
theorem nmX7 : ∀ a, a < 6 → ∀ b, b < 6 → a ≠ b → (TX7 a).2.1 ≠ (TX7 b).2.1 := by decide +kernel
theorem tyX7_ok : ∀ k, k < 6 → parseFieldDescriptor (TX7 k).2.2.1 = some (tyX7 k) := by decide +kernel
abbrev cX7_init : ByteArray := prog_9_method_1_code
def yX7_init : MethodName := ⟨RX7, "<init>", "()V"⟩
abbrev cX7_isFull : ByteArray := prog_9_method_2_code
def yX7_isFull : MethodName := ⟨RX7, "isFull", "()Z"⟩
abbrev cX7_addSure : ByteArray := prog_9_method_3_code
def yX7_addSure : MethodName := ⟨RX7, "addSure", "(III)I"⟩
abbrev cX7_addSeen : ByteArray := prog_9_method_4_code
def yX7_addSeen : MethodName := ⟨RX7, "addSeen", "(IIII)I"⟩
abbrev cX7_add : ByteArray := prog_9_method_5_code
def yX7_add : MethodName := ⟨RX7, "add", "(ZIIII)I"⟩
abbrev cX7_strike : ByteArray := prog_9_method_6_code
def yX7_strike : MethodName := ⟨RX7, "strike", "(LReadingChart$Lexicon;LReadingChart$Sentence;)V"⟩
abbrev cX7_holdsSure : ByteArray := prog_9_method_7_code
def yX7_holdsSure : MethodName := ⟨RX7, "holdsSure", "(ILReadingChart$Sentence;I)Z"⟩
abbrev cX7_holdsSeen : ByteArray := prog_9_method_8_code
def yX7_holdsSeen : MethodName := ⟨RX7, "holdsSeen", "(ILReadingChart$Sentence;I)Z"⟩
def RX8 : String := "ReadingChart$Style"
def TX8 : u_T := fun k => match k with
  | 0 => ("ReadingChart$Style", "size", "I", false)
  | 1 => ("ReadingChart$Style", "parts", "[I", true)
  | 2 => ("ReadingChart$Style", "exceptionOf", "[I", true)
  | 3 => ("ReadingChart$Style", "offAltogether", "[Z", true)
  | _ => ("ReadingChart$Style", "offForWord", "[Z", true)
def tyX8 : Nat → FieldType := fun k => match k with
  | 0 => .int
  | 1 => .array .int
  | 2 => .array .int
  | 3 => .array .boolean
  | _ => .array .boolean
abbrev wsX80 : List Cond := u_ws RX8 TX8 5
theorem nmX8 : ∀ a, a < 5 → ∀ b, b < 5 → a ≠ b → (TX8 a).2.1 ≠ (TX8 b).2.1 := by decide +kernel
theorem tyX8_ok : ∀ k, k < 5 → parseFieldDescriptor (TX8 k).2.2.1 = some (tyX8 k) := by decide +kernel
abbrev cX8_init : ByteArray := prog_10_method_1_code
def yX8_init : MethodName := ⟨RX8, "<init>", "()V"⟩
abbrev cX8_isFull : ByteArray := prog_10_method_2_code
def yX8_isFull : MethodName := ⟨RX8, "isFull", "()Z"⟩
abbrev cX8_hasPattern : ByteArray := prog_10_method_3_code
def yX8_hasPattern : MethodName := ⟨RX8, "hasPattern", "(I)Z"⟩
abbrev cX8_addPattern : ByteArray := prog_10_method_4_code
def yX8_addPattern : MethodName := ⟨RX8, "addPattern", "(IIII)I"⟩
abbrev cX8_switchAltogether : ByteArray := prog_10_method_5_code
def yX8_switchAltogether : MethodName := ⟨RX8, "switchAltogether", "(I)Z"⟩
abbrev cX8_switchFor : ByteArray := prog_10_method_6_code
def yX8_switchFor : MethodName := ⟨RX8, "switchFor", "(II)Z"⟩
abbrev cX8_isOff : ByteArray := prog_10_method_7_code
def yX8_isOff : MethodName := ⟨RX8, "isOff", "(II)Z"⟩
abbrev cX8_fits : ByteArray := prog_10_method_8_code
def yX8_fits : MethodName := ⟨RX8, "fits", "(LReadingChart$Sentence;II)Z"⟩
abbrev cX8_standing : ByteArray := prog_10_method_9_code
def yX8_standing : MethodName := ⟨RX8, "standing", "(LReadingChart$Sentence;I)I"⟩
abbrev cX8_countFaults : ByteArray := prog_10_method_10_code
def yX8_countFaults : MethodName := ⟨RX8, "countFaults", "(LReadingChart$Sentence;)I"⟩
abbrev cX8_faultNumber : ByteArray := prog_10_method_11_code
def yX8_faultNumber : MethodName := ⟨RX8, "faultNumber", "(LReadingChart$Sentence;I)I"⟩
def RX9 : String := "ReadingChart$Tree"
def TX9 : u_T := fun k => match k with
  | 0 => ("ReadingChart$Tree", "size", "I", false)
  | 1 => ("ReadingChart$Tree", "nodes", "[I", true)
  | 2 => ("ReadingChart$Tree", "waiting", "[I", true)
  | 3 => ("ReadingChart$Tree", "features", "[I", true)
  | _ => ("ReadingChart$Tree", "price", "[I", true)
def tyX9 : Nat → FieldType := fun k => match k with
  | 0 => .int
  | 1 => .array .int
  | 2 => .array .int
  | 3 => .array .int
  | _ => .array .int
abbrev wsX90 : List Cond := u_ws RX9 TX9 5
theorem nmX9 : ∀ a, a < 5 → ∀ b, b < 5 → a ≠ b → (TX9 a).2.1 ≠ (TX9 b).2.1 := by decide +kernel
theorem tyX9_ok : ∀ k, k < 5 → parseFieldDescriptor (TX9 k).2.2.1 = some (tyX9 k) := by decide +kernel
abbrev cX9_init : ByteArray := prog_11_method_1_code
def yX9_init : MethodName := ⟨RX9, "<init>", "()V"⟩
abbrev cX9_grow : ByteArray := prog_11_method_2_code
def yX9_grow : MethodName := ⟨RX9, "grow", "(LReadingChart$Chart;)V"⟩
abbrev cX9_countRelaxed : ByteArray := prog_11_method_3_code
def yX9_countRelaxed : MethodName := ⟨RX9, "countRelaxed", "(LReadingChart$Chart;)I"⟩
abbrev cX9_findRelaxed : ByteArray := prog_11_method_4_code
def yX9_findRelaxed : MethodName := ⟨RX9, "findRelaxed", "(LReadingChart$Chart;I)I"⟩
abbrev cX9_priceAnew : ByteArray := prog_11_method_5_code
def yX9_priceAnew : MethodName := ⟨RX9, "priceAnew", "(LReadingChart$Chart;LReadingChart$Grammar;)I"⟩
abbrev cX9_useAnew : ByteArray := prog_11_method_6_code
def yX9_useAnew : MethodName := ⟨RX9, "useAnew", "(LReadingChart$Grammar;III)V"⟩
def RX10 : String := "ReadingChart"
def TX10 : u_T := fun k => match k with
  | 0 => ("ReadingChart", "lexicon", "LReadingChart$Lexicon;", true)
  | 1 => ("ReadingChart", "striking", "LReadingChart$Striking;", true)
  | 2 => ("ReadingChart", "grammar", "LReadingChart$Grammar;", true)
  | 3 => ("ReadingChart", "referring", "LReadingChart$Referring;", true)
  | 4 => ("ReadingChart", "reader", "LReadingChart$Reader;", true)
  | 5 => ("ReadingChart", "tree", "LReadingChart$Tree;", true)
  | 6 => ("ReadingChart", "cuts", "LReadingChart$Fragments;", true)
  | 7 => ("ReadingChart", "style", "LReadingChart$Style;", true)
  | 8 => ("ReadingChart", "text", "[LReadingChart$Sentence;", true)
  | 9 => ("ReadingChart", "trial", "LReadingChart$Sentence;", true)
  | 10 => ("ReadingChart", "givenNow", "[I", true)
  | 11 => ("ReadingChart", "mendsFound", "[I", true)
  | _ => ("ReadingChart", "readSoFar", "I", false)
def tyX10 : Nat → FieldType := fun k => match k with
  | 0 => .object "ReadingChart$Lexicon"
  | 1 => .object "ReadingChart$Striking"
  | 2 => .object "ReadingChart$Grammar"
  | 3 => .object "ReadingChart$Referring"
  | 4 => .object "ReadingChart$Reader"
  | 5 => .object "ReadingChart$Tree"
  | 6 => .object "ReadingChart$Fragments"
  | 7 => .object "ReadingChart$Style"
  | 8 => .array (.object "ReadingChart$Sentence")
  | 9 => .object "ReadingChart$Sentence"
  | 10 => .array .int
  | 11 => .array .int
  | _ => .int
abbrev wsX100 : List Cond := u_ws RX10 TX10 13
theorem nmX10 : ∀ a, a < 13 → ∀ b, b < 13 → a ≠ b → (TX10 a).2.1 ≠ (TX10 b).2.1 := by decide +kernel
theorem tyX10_ok : ∀ k, k < 13 → parseFieldDescriptor (TX10 k).2.2.1 = some (tyX10 k) := by decide +kernel
abbrev cX10_init : ByteArray := prog_1_method_1_code
def yX10_init : MethodName := ⟨RX10, "<init>", "()V"⟩
abbrev cX10_word : ByteArray := prog_1_method_2_code
def yX10_word : MethodName := ⟨RX10, "word", "(I)I"⟩
abbrev cX10_reading : ByteArray := prog_1_method_3_code
def yX10_reading : MethodName := ⟨RX10, "reading", "(IIIIII)I"⟩
abbrev cX10_guess : ByteArray := prog_1_method_4_code
def yX10_guess : MethodName := ⟨RX10, "guess", "(IIIII)I"⟩
abbrev cX10_readings : ByteArray := prog_1_method_5_code
def yX10_readings : MethodName := ⟨RX10, "readings", "(I)I"⟩
abbrev cX10_sure : ByteArray := prog_1_method_6_code
def yX10_sure : MethodName := ⟨RX10, "sure", "(III)I"⟩
abbrev cX10_seen : ByteArray := prog_1_method_7_code
def yX10_seen : MethodName := ⟨RX10, "seen", "(IIII)I"⟩
abbrev cX10_rule : ByteArray := prog_1_method_8_code
def yX10_rule : MethodName := ⟨RX10, "rule", "(IIII)I"⟩
abbrev cX10_equate : ByteArray := prog_1_method_9_code
def yX10_equate : MethodName := ⟨RX10, "equate", "(IIIII)I"⟩
abbrev cX10_append : ByteArray := prog_1_method_10_code
def yX10_append : MethodName := ⟨RX10, "append", "(II)I"⟩
abbrev cX10_change : ByteArray := prog_1_method_11_code
def yX10_change : MethodName := ⟨RX10, "change", "(III)I"⟩
abbrev cX10_remove : ByteArray := prog_1_method_12_code
def yX10_remove : MethodName := ⟨RX10, "remove", "(II)I"⟩
abbrev cX10_length : ByteArray := prog_1_method_13_code
def yX10_length : MethodName := ⟨RX10, "length", "(I)I"⟩
abbrev cX10_wordAt : ByteArray := prog_1_method_14_code
def yX10_wordAt : MethodName := ⟨RX10, "wordAt", "(II)I"⟩
abbrev cX10_left : ByteArray := prog_1_method_15_code
def yX10_left : MethodName := ⟨RX10, "left", "(II)I"⟩
abbrev cX10_referent : ByteArray := prog_1_method_16_code
def yX10_referent : MethodName := ⟨RX10, "referent", "(II)I"⟩
abbrev cX10_edges : ByteArray := prog_1_method_17_code
def yX10_edges : MethodName := ⟨RX10, "edges", "(III)I"⟩
abbrev cX10_edge : ByteArray := prog_1_method_18_code
def yX10_edge : MethodName := ⟨RX10, "edge", "(IIII)I"⟩
abbrev cX10_edgeCost : ByteArray := prog_1_method_19_code
def yX10_edgeCost : MethodName := ⟨RX10, "edgeCost", "(IIII)I"⟩
abbrev cX10_cost : ByteArray := prog_1_method_20_code
def yX10_cost : MethodName := ⟨RX10, "cost", "(I)I"⟩
abbrev cX10_costAnew : ByteArray := prog_1_method_21_code
def yX10_costAnew : MethodName := ⟨RX10, "costAnew", "(I)I"⟩
abbrev cX10_faults : ByteArray := prog_1_method_22_code
def yX10_faults : MethodName := ⟨RX10, "faults", "(I)I"⟩
abbrev cX10_fault : ByteArray := prog_1_method_23_code
def yX10_fault : MethodName := ⟨RX10, "fault", "(II)I"⟩
abbrev cX10_fragments : ByteArray := prog_1_method_24_code
def yX10_fragments : MethodName := ⟨RX10, "fragments", "(I)I"⟩
abbrev cX10_fragment : ByteArray := prog_1_method_25_code
def yX10_fragment : MethodName := ⟨RX10, "fragment", "(II)I"⟩
abbrev cX10_mend : ByteArray := prog_1_method_26_code
def yX10_mend : MethodName := ⟨RX10, "mend", "(II)I"⟩
abbrev cX10_best : ByteArray := prog_1_method_27_code
def yX10_best : MethodName := ⟨RX10, "best", "(I)I"⟩
abbrev cX10_mendAll : ByteArray := prog_1_method_28_code
def yX10_mendAll : MethodName := ⟨RX10, "mendAll", "(I)I"⟩
abbrev cX10_reads : ByteArray := prog_1_method_29_code
def yX10_reads : MethodName := ⟨RX10, "reads", "()I"⟩
abbrev cX10_pattern : ByteArray := prog_1_method_30_code
def yX10_pattern : MethodName := ⟨RX10, "pattern", "(IIII)I"⟩
abbrev cX10_off : ByteArray := prog_1_method_31_code
def yX10_off : MethodName := ⟨RX10, "off", "(II)Z"⟩
abbrev cX10_styleFaults : ByteArray := prog_1_method_32_code
def yX10_styleFaults : MethodName := ⟨RX10, "styleFaults", "(I)I"⟩
abbrev cX10_styleFault : ByteArray := prog_1_method_33_code
def yX10_styleFault : MethodName := ⟨RX10, "styleFault", "(II)I"⟩
abbrev cX10_isBelow : ByteArray := prog_1_method_34_code
def yX10_isBelow : MethodName := ⟨RX10, "isBelow", "(II)Z"⟩
abbrev cX10_isCategoryOrNone : ByteArray := prog_1_method_35_code
def yX10_isCategoryOrNone : MethodName := ⟨RX10, "isCategoryOrNone", "(I)Z"⟩
abbrev cX10_areFeatures : ByteArray := prog_1_method_36_code
def yX10_areFeatures : MethodName := ⟨RX10, "areFeatures", "(III)Z"⟩
abbrev cX10_requireWord : ByteArray := prog_1_method_37_code
def yX10_requireWord : MethodName := ⟨RX10, "requireWord", "(I)V"⟩
abbrev cX10_sentenceAt : ByteArray := prog_1_method_38_code
def yX10_sentenceAt : MethodName := ⟨RX10, "sentenceAt", "(I)LReadingChart$Sentence;"⟩
abbrev cX10_requirePlace : ByteArray := prog_1_method_39_code
def yX10_requirePlace : MethodName := ⟨RX10, "requirePlace", "(LReadingChart$Sentence;I)V"⟩
abbrev cX10_requireSpan : ByteArray := prog_1_method_40_code
def yX10_requireSpan : MethodName := ⟨RX10, "requireSpan", "(LReadingChart$Sentence;II)V"⟩
abbrev cX10_edgeAt : ByteArray := prog_1_method_41_code
def yX10_edgeAt : MethodName := ⟨RX10, "edgeAt", "(LReadingChart$Chart;II)I"⟩
abbrev cX10_faultAt : ByteArray := prog_1_method_42_code
def yX10_faultAt : MethodName := ⟨RX10, "faultAt", "(LReadingChart$Chart;I)I"⟩
abbrev cX10_pack : ByteArray := prog_1_method_43_code
def yX10_pack : MethodName := ⟨RX10, "pack", "(III)I"⟩
abbrev cX10_valueOf : ByteArray := prog_1_method_44_code
def yX10_valueOf : MethodName := ⟨RX10, "valueOf", "(II)I"⟩
abbrev cX10_withValue : ByteArray := prog_1_method_45_code
def yX10_withValue : MethodName := ⟨RX10, "withValue", "(III)I"⟩
abbrev cX10_spanOf : ByteArray := prog_1_method_46_code
def yX10_spanOf : MethodName := ⟨RX10, "spanOf", "(II)I"⟩
abbrev cX10_placeOfEdge : ByteArray := prog_1_method_47_code
def yX10_placeOfEdge : MethodName := ⟨RX10, "placeOfEdge", "(I)I"⟩
abbrev cX10_wordsOfEdge : ByteArray := prog_1_method_48_code
def yX10_wordsOfEdge : MethodName := ⟨RX10, "wordsOfEdge", "(I)I"⟩
abbrev cX10_outdateAll : ByteArray := prog_1_method_49_code
def yX10_outdateAll : MethodName := ⟨RX10, "outdateAll", "()V"⟩
abbrev cX10_strikeAsNeeded : ByteArray := prog_1_method_50_code
def yX10_strikeAsNeeded : MethodName := ⟨RX10, "strikeAsNeeded", "(LReadingChart$Sentence;)V"⟩
abbrev cX10_strikeUpTo : ByteArray := prog_1_method_51_code
def yX10_strikeUpTo : MethodName := ⟨RX10, "strikeUpTo", "(I)V"⟩
abbrev cX10_refers : ByteArray := prog_1_method_52_code
def yX10_refers : MethodName := ⟨RX10, "refers", "(ILReadingChart$Sentence;I)Z"⟩
abbrev cX10_findGiven : ByteArray := prog_1_method_53_code
def yX10_findGiven : MethodName := ⟨RX10, "findGiven", "(ILReadingChart$Sentence;)V"⟩
abbrev cX10_readAsNeeded : ByteArray := prog_1_method_54_code
def yX10_readAsNeeded : MethodName := ⟨RX10, "readAsNeeded", "(I)LReadingChart$Chart;"⟩
abbrev cX10_mendOf : ByteArray := prog_1_method_55_code
def yX10_mendOf : MethodName := ⟨RX10, "mendOf", "(II)I"⟩
abbrev cX10_mendToTry : ByteArray := prog_1_method_56_code
def yX10_mendToTry : MethodName := ⟨RX10, "mendToTry", "(LReadingChart$Sentence;II)I"⟩
abbrev cX10_priceWith : ByteArray := prog_1_method_57_code
def yX10_priceWith : MethodName := ⟨RX10, "priceWith", "(III)I"⟩
abbrev cX10_putMend : ByteArray := prog_1_method_58_code
def yX10_putMend : MethodName := ⟨RX10, "putMend", "(LReadingChart$Sentence;I)V"⟩
abbrev cX10_mendIn : ByteArray := prog_1_method_59_code
def yX10_mendIn : MethodName := ⟨RX10, "mendIn", "(II)I"⟩
abbrev cX10_canBePut : ByteArray := prog_1_method_60_code
def yX10_canBePut : MethodName := ⟨RX10, "canBePut", "(I)Z"⟩
abbrev cX10_chosenOf : ByteArray := prog_1_method_61_code
def yX10_chosenOf : MethodName := ⟨RX10, "chosenOf", "(I)I"⟩
def RX11 : String := "ReadingChartModel"
def TX11 : u_T := fun k => match k with
  | _ => ("", "", "", false)
def tyX11 : Nat → FieldType := fun k => match k with
  | _ => .int
abbrev wsX110 : List Cond := u_ws RX11 TX11 0
theorem nmX11 : ∀ a, a < 0 → ∀ b, b < 0 → a ≠ b → (TX11 a).2.1 ≠ (TX11 b).2.1 := by decide +kernel
theorem tyX11_ok : ∀ k, k < 0 → parseFieldDescriptor (TX11 k).2.2.1 = some (tyX11 k) := by decide +kernel
def RJ6 : String := "java/lang/Integer"
def TJ6 : u_T := fun k => match k with
  | _ => ("", "", "", false)
def tyJ6 : Nat → FieldType := fun k => match k with
  | _ => .int
abbrev wsJ60 : List Cond := u_ws RJ6 TJ6 0
theorem nmJ6 : ∀ a, a < 0 → ∀ b, b < 0 → a ≠ b → (TJ6 a).2.1 ≠ (TJ6 b).2.1 := by decide +kernel
theorem tyJ6_ok : ∀ k, k < 0 → parseFieldDescriptor (TJ6 k).2.2.1 = some (tyJ6 k) := by decide +kernel
abbrev cJ6_bitCount_0f7a4 : ByteArray := prog_18_method_49_code
def yJ6_bitCount_0f7a4 : MethodName := ⟨RJ6, "bitCount", "(I)I"⟩
def RJ9 : String := "java/lang/Math"
def TJ9 : u_T := fun k => match k with
  | _ => ("", "", "", false)
def tyJ9 : Nat → FieldType := fun k => match k with
  | _ => .int
abbrev wsJ90 : List Cond := u_ws RJ9 TJ9 0
theorem nmJ9 : ∀ a, a < 0 → ∀ b, b < 0 → a ≠ b → (TJ9 a).2.1 ≠ (TJ9 b).2.1 := by decide +kernel
theorem tyJ9_ok : ∀ k, k < 0 → parseFieldDescriptor (TJ9 k).2.2.1 = some (tyJ9 k) := by decide +kernel
abbrev cJ9_max_7cf53 : ByteArray := prog_19_method_65_code
def yJ9_max_7cf53 : MethodName := ⟨RJ9, "max", "(II)I"⟩
abbrev cJ9_min_7cf53 : ByteArray := prog_19_method_69_code
def yJ9_min_7cf53 : MethodName := ⟨RJ9, "min", "(II)I"⟩
def RJ0 : String := "java/lang/String"
def TJ0 : u_T := fun k => match k with
  | _ => ("", "", "", false)
def tyJ0 : Nat → FieldType := fun k => match k with
  | _ => .int
abbrev wsJ00 : List Cond := u_ws RJ0 TJ0 0
theorem nmJ0 : ∀ a, a < 0 → ∀ b, b < 0 → a ≠ b → (TJ0 a).2.1 ≠ (TJ0 b).2.1 := by decide +kernel
theorem tyJ0_ok : ∀ k, k < 0 → parseFieldDescriptor (TJ0 k).2.2.1 = some (tyJ0 k) := by decide +kernel
def RL : String := "ReadingChartLaw"
abbrev cL_cell : ByteArray := method_2_code
def yL_cell : MethodName := ⟨RL, "cell", "([II)I"⟩
abbrev cL_some : ByteArray := method_3_code
def yL_some : MethodName := ⟨RL, "some", "(II)I"⟩
abbrev cL_reading : ByteArray := method_4_code
def yL_reading : MethodName := ⟨RL, "reading", "([I[III)I"⟩
abbrev cL_readings : ByteArray := method_5_code
def yL_readings : MethodName := ⟨RL, "readings", "([I[II)I"⟩
abbrev cL_leftOf : ByteArray := method_6_code
def yL_leftOf : MethodName := ⟨RL, "leftOf", "([I[I[I[III)I"⟩
abbrev cL_holds : ByteArray := method_7_code
def yL_holds : MethodName := ⟨RL, "holds", "([I[I[I[I[I[IIII)Z"⟩
abbrev cL_strikes : ByteArray := method_8_code
def yL_strikes : MethodName := ⟨RL, "strikes", "([I[I[I[I[I[II)V"⟩
abbrev cL_agree : ByteArray := method_9_code
def yL_agree : MethodName := ⟨RL, "agree", "(II)Z"⟩
abbrev cL_refers : ByteArray := method_10_code
def yL_refers : MethodName := ⟨RL, "refers", "([I[I[I[I[I[I[II)V"⟩
abbrev cL_looks : ByteArray := method_11_code
def yL_looks : MethodName := ⟨RL, "looks", "([I[I[I[I[I[I[I[I)V"⟩
abbrev cL_span : ByteArray := method_12_code
def yL_span : MethodName := ⟨RL, "span", "(II)I"⟩
abbrev cL_digit : ByteArray := method_13_code
def yL_digit : MethodName := ⟨RL, "digit", "(II)I"⟩
abbrev cL_use : ByteArray := method_14_code
def yL_use : MethodName := ⟨RL, "use", "([I[I[I[I[IIII)I"⟩
abbrev cL_lays : ByteArray := method_15_code
def yL_lays : MethodName := ⟨RL, "lays", "([I[I[I[I[I[IIIII)V"⟩
abbrev cL_tries : ByteArray := method_16_code
def yL_tries : MethodName := ⟨RL, "tries", "([I[I[I[I[I[I[I[I[IIIII)V"⟩
abbrev cL_chart : ByteArray := method_17_code
def yL_chart : MethodName := ⟨RL, "chart", "([I[I[I[I[I[I[I[I[I[I[I[I[I[II)V"⟩
abbrev cL_reads : ByteArray := method_18_code
def yL_reads : MethodName := ⟨RL, "reads", "([I[I[II)V"⟩
abbrev cL_whole : ByteArray := method_19_code
def yL_whole : MethodName := ⟨RL, "whole", "([I[I[I[I[II)I"⟩
abbrev cL_faults : ByteArray := method_20_code
def yL_faults : MethodName := ⟨RL, "faults", "([I[I[I[I[I[I[II)I"⟩
abbrev cL_fragments : ByteArray := method_21_code
def yL_fragments : MethodName := ⟨RL, "fragments", "([I[I[I[I[I[I[I[IIZ)I"⟩
abbrev cL_stands : ByteArray := method_22_code
def yL_stands : MethodName := ⟨RL, "stands", "([I[I[I[I[I[I[IIII)Z"⟩
abbrev cL_style : ByteArray := method_23_code
def yL_style : MethodName := ⟨RL, "style", "([I[I[I[I[I[I[I[II)I"⟩
abbrev cL_adds : ByteArray := method_24_code
def yL_adds : MethodName := ⟨RL, "adds", "(LReadingChart;I)I"⟩
abbrev cL_tells : ByteArray := method_25_code
def yL_tells : MethodName := ⟨RL, "tells", "(LReadingChart;IIIIII)I"⟩
abbrev cL_guesses : ByteArray := method_26_code
def yL_guesses : MethodName := ⟨RL, "guesses", "(LReadingChart;IIIII)I"⟩
abbrev cL_four : ByteArray := method_27_code
def yL_four : MethodName := ⟨RL, "four", "(LReadingChart;IIIII)I"⟩
abbrev cL_equates : ByteArray := method_28_code
def yL_equates : MethodName := ⟨RL, "equates", "(LReadingChart;IIIII)I"⟩
abbrev cL_two : ByteArray := method_29_code
def yL_two : MethodName := ⟨RL, "two", "(LReadingChart;III)I"⟩
abbrev cL_one : ByteArray := method_30_code
def yL_one : MethodName := ⟨RL, "one", "(LReadingChart;II)I"⟩
abbrev cL_more : ByteArray := method_31_code
def yL_more : MethodName := ⟨RL, "more", "(LReadingChart;IIIII)I"⟩
abbrev cL_offs : ByteArray := method_32_code
def yL_offs : MethodName := ⟨RL, "offs", "(LReadingChart;II)I"⟩
abbrev cL_lexicon : ByteArray := method_33_code
def yL_lexicon : MethodName := ⟨RL, "lexicon", "(LReadingChart;II[I[I[I)Z"⟩
abbrev cL_grammar : ByteArray := method_34_code
def yL_grammar : MethodName := ⟨RL, "grammar", "(LReadingChart;II[I[I[I[I[I)Z"⟩
abbrev cL_texts : ByteArray := method_35_code
def yL_texts : MethodName := ⟨RL, "texts", "(LReadingChart;II[I[I)Z"⟩
abbrev cL_patterns : ByteArray := method_36_code
def yL_patterns : MethodName := ⟨RL, "patterns", "(LReadingChart;II[I[I[I)Z"⟩
abbrev cL_asks : ByteArray := method_37_code
def yL_asks : MethodName := ⟨RL, "asks", "(LReadingChart;I[I[I[I[I[I[I[I[I[I[I[I[I[I[I)Z"⟩
abbrev cL_law : ByteArray := code
def yL_law : MethodName := ⟨RL, "law", "([I)Z"⟩
def wsL_law0_r1 : List Cond := [Cond.classLink RL 68 RX10, Cond.instantiable RX10 13, Cond.initialized RX10, Cond.arrayClass .int, Cond.constant RL 240 (15485863), Cond.methodLink RL 235 yX10_init, Cond.instanceMethod yX10_init, Cond.code yX10_init cX10_init 2 none, Cond.methodLink RX10 3 objectInit, Cond.instanceMethod objectInit, Cond.code objectInit ⟨#[0xb1]⟩ 1 none, Cond.classLink RX10 9 RX3, Cond.instantiable RX3 6, Cond.initialized RX3, Cond.fieldLink RX10 12 "ReadingChart" "lexicon" "LReadingChart$Lexicon;", Cond.classLink RX10 16 RX7, Cond.instantiable RX7 6, Cond.initialized RX7, Cond.fieldLink RX10 19 "ReadingChart" "striking" "LReadingChart$Striking;", Cond.classLink RX10 23 RX2, Cond.instantiable RX2 15, Cond.initialized RX2, Cond.fieldLink RX10 26 "ReadingChart" "grammar" "LReadingChart$Grammar;", Cond.classLink RX10 30 RX5]
def wsL_law0_r2 : List Cond := [Cond.instantiable RX5 3, Cond.initialized RX5, Cond.fieldLink RX10 33 "ReadingChart" "referring" "LReadingChart$Referring;", Cond.classLink RX10 37 RX4, Cond.instantiable RX4 0, Cond.initialized RX4, Cond.fieldLink RX10 40 "ReadingChart" "reader" "LReadingChart$Reader;", Cond.classLink RX10 44 RX9, Cond.instantiable RX9 5, Cond.initialized RX9, Cond.fieldLink RX10 47 "ReadingChart" "tree" "LReadingChart$Tree;", Cond.classLink RX10 51 RX1, Cond.instantiable RX1 4, Cond.initialized RX1, Cond.fieldLink RX10 54 "ReadingChart" "cuts" "LReadingChart$Fragments;", Cond.classLink RX10 58 RX8, Cond.instantiable RX8 5, Cond.initialized RX8, Cond.fieldLink RX10 61 "ReadingChart" "style" "LReadingChart$Style;", Cond.classLink RX10 65 RX6, Cond.fieldLink RX10 67 "ReadingChart" "text" "[LReadingChart$Sentence;", Cond.instantiable RX6 9, Cond.initialized RX6, Cond.fieldLink RX10 72 "ReadingChart" "trial" "LReadingChart$Sentence;"]
def wsL_law0_r3 : List Cond := [Cond.fieldLink RX10 76 "ReadingChart" "givenNow" "[I", Cond.fieldLink RX10 80 "ReadingChart" "mendsFound" "[I", Cond.fieldLink RX10 83 "ReadingChart" "readSoFar" "I", Cond.instanceMethod yX3_init, Cond.code yX3_init cX3_init 1 none, Cond.methodLink RX3 3 objectInit, Cond.fieldLink RX3 9 "ReadingChart$Lexicon" "size" "I", Cond.fieldLink RX3 15 "ReadingChart$Lexicon" "ending" "[I", Cond.fieldLink RX3 19 "ReadingChart$Lexicon" "filled" "[I", Cond.fieldLink RX3 22 "ReadingChart$Lexicon" "lemma" "[I", Cond.fieldLink RX3 25 "ReadingChart$Lexicon" "category" "[I", Cond.fieldLink RX3 28 "ReadingChart$Lexicon" "features" "[I", Cond.instanceMethod yX7_init, Cond.code yX7_init cX7_init 1 none, Cond.methodLink RX7 3 objectInit, Cond.fieldLink RX7 9 "ReadingChart$Striking" "size" "I", Cond.arrayClass .boolean, Cond.fieldLink RX7 15 "ReadingChart$Striking" "isSure" "[Z", Cond.fieldLink RX7 19 "ReadingChart$Striking" "category" "[I", Cond.fieldLink RX7 23 "ReadingChart$Striking" "step" "[I", Cond.fieldLink RX7 26 "ReadingChart$Striking" "other" "[I", Cond.fieldLink RX7 29 "ReadingChart$Striking" "barrier" "[I", Cond.instanceMethod yX2_init, Cond.code yX2_init cX2_init 1 none]
def wsL_law0_r4 : List Cond := [Cond.methodLink RX2 3 objectInit, Cond.fieldLink RX2 9 "ReadingChart$Grammar" "size" "I", Cond.fieldLink RX2 15 "ReadingChart$Grammar" "parent" "[I", Cond.fieldLink RX2 19 "ReadingChart$Grammar" "leftPart" "[I", Cond.fieldLink RX2 22 "ReadingChart$Grammar" "rightPart" "[I", Cond.fieldLink RX2 25 "ReadingChart$Grammar" "headSide" "[I", Cond.fieldLink RX2 28 "ReadingChart$Grammar" "singles" "I", Cond.fieldLink RX2 31 "ReadingChart$Grammar" "single" "[I", Cond.fieldLink RX2 34 "ReadingChart$Grammar" "equations" "[I", Cond.fieldLink RX2 37 "ReadingChart$Grammar" "feature" "[I", Cond.fieldLink RX2 40 "ReadingChart$Grammar" "one" "[I", Cond.fieldLink RX2 43 "ReadingChart$Grammar" "other" "[I", Cond.fieldLink RX2 46 "ReadingChart$Grammar" "price" "[I", Cond.fieldLink RX2 49 "ReadingChart$Grammar" "sides" "[I", Cond.fieldLink RX2 52 "ReadingChart$Grammar" "paid" "I", Cond.fieldLink RX2 55 "ReadingChart$Grammar" "relaxed" "I", Cond.instanceMethod yX5_init, Cond.code yX5_init cX5_init 1 none, Cond.methodLink RX5 3 objectInit, Cond.fieldLink RX5 9 "ReadingChart$Referring" "sentence" "I", Cond.fieldLink RX5 15 "ReadingChart$Referring" "place" "I", Cond.fieldLink RX5 18 "ReadingChart$Referring" "given" "I", Cond.instanceMethod yX4_init, Cond.code yX4_init cX4_init 1 none]
def wsL_law0_r5 : List Cond := [Cond.methodLink RX4 3 objectInit, Cond.instanceMethod yX9_init, Cond.code yX9_init cX9_init 1 none, Cond.methodLink RX9 3 objectInit, Cond.fieldLink RX9 9 "ReadingChart$Tree" "size" "I", Cond.fieldLink RX9 15 "ReadingChart$Tree" "nodes" "[I", Cond.fieldLink RX9 19 "ReadingChart$Tree" "waiting" "[I", Cond.fieldLink RX9 22 "ReadingChart$Tree" "features" "[I", Cond.fieldLink RX9 25 "ReadingChart$Tree" "price" "[I", Cond.instanceMethod yX1_init, Cond.code yX1_init cX1_init 1 none, Cond.methodLink RX1 3 objectInit, Cond.fieldLink RX1 9 "ReadingChart$Fragments" "size" "I", Cond.fieldLink RX1 15 "ReadingChart$Fragments" "fewest" "[I", Cond.fieldLink RX1 19 "ReadingChart$Fragments" "price" "[I", Cond.fieldLink RX1 22 "ReadingChart$Fragments" "words" "[I", Cond.instanceMethod yX8_init, Cond.code yX8_init cX8_init 1 none, Cond.methodLink RX8 3 objectInit, Cond.fieldLink RX8 9 "ReadingChart$Style" "size" "I", Cond.fieldLink RX8 15 "ReadingChart$Style" "parts" "[I", Cond.fieldLink RX8 19 "ReadingChart$Style" "exceptionOf" "[I", Cond.fieldLink RX8 22 "ReadingChart$Style" "offAltogether" "[Z", Cond.fieldLink RX8 26 "ReadingChart$Style" "offForWord" "[Z"]
def wsL_law0_r6 : List Cond := [Cond.instanceMethod yX6_init, Cond.code yX6_init cX6_init 1 none, Cond.methodLink RX6 3 objectInit, Cond.fieldLink RX6 9 "ReadingChart$Sentence" "size" "I", Cond.fieldLink RX6 15 "ReadingChart$Sentence" "words" "[I", Cond.fieldLink RX6 19 "ReadingChart$Sentence" "left" "[I", Cond.fieldLink RX6 22 "ReadingChart$Sentence" "given" "[I", Cond.fieldLink RX6 25 "ReadingChart$Sentence" "category" "[I", Cond.fieldLink RX6 28 "ReadingChart$Sentence" "features" "[I", Cond.classLink RX6 31 RX0, Cond.instantiable RX0 9, Cond.initialized RX0, Cond.fieldLink RX6 34 "ReadingChart$Sentence" "chart" "LReadingChart$Chart;", Cond.fieldLink RX6 38 "ReadingChart$Sentence" "struck" "Z", Cond.fieldLink RX6 42 "ReadingChart$Sentence" "outdated" "Z", Cond.instanceMethod yX0_init, Cond.code yX0_init cX0_init 1 none, Cond.methodLink RX0 3 objectInit, Cond.fieldLink RX0 9 "ReadingChart$Chart" "size" "I", Cond.fieldLink RX0 15 "ReadingChart$Chart" "filled" "[I", Cond.fieldLink RX0 19 "ReadingChart$Chart" "category" "[I", Cond.fieldLink RX0 22 "ReadingChart$Chart" "features" "[I", Cond.fieldLink RX0 25 "ReadingChart$Chart" "price" "[I", Cond.fieldLink RX0 28 "ReadingChart$Chart" "rule" "[I"]
def wsL_law0_r7 : List Cond := [Cond.fieldLink RX0 31 "ReadingChart$Chart" "leftPart" "[I", Cond.fieldLink RX0 34 "ReadingChart$Chart" "rightPart" "[I", Cond.fieldLink RX0 37 "ReadingChart$Chart" "relaxed" "[I", Cond.methodLink RL 236 yL_cell, Cond.static yL_cell, Cond.initialized RL, Cond.code yL_cell cL_cell 2 (some .int), Cond.constantLong RL 7 (2654435761), Cond.methodLink RL 171 yL_some, Cond.static yL_some, Cond.code yL_some cL_some 2 (some .int), Cond.methodLink RL 241 yL_lexicon, Cond.static yL_lexicon, Cond.code yL_lexicon cL_lexicon 14 (some .boolean), Cond.methodLink RL 174 yL_adds, Cond.static yL_adds, Cond.codeWith yL_adds cL_adds 3 (some .int) [(0, 5, 6, 73), (0, 5, 11, 75)], Cond.classLink RL 73 "java/lang/IllegalArgumentException", Cond.classLink RL 75 "java/lang/IllegalStateException", Cond.methodLink RL 67 yX10_word, Cond.instanceMethod yX10_word, Cond.selects RX10 yX10_word yX10_word, Cond.code yX10_word cX10_word 2 (some .int), Cond.classLink RX10 91 "java/lang/IllegalArgumentException"]
def wsL_law0_r8 : List Cond := [Cond.initialized "java/lang/IllegalArgumentException", Cond.classLink RX10 102 "java/lang/IllegalStateException", Cond.initialized "java/lang/IllegalStateException", Cond.methodLink RX10 87 yX10_isBelow, Cond.static yX10_isBelow, Cond.code yX10_isBelow cX10_isBelow 2 (some .boolean), Cond.methodLink RX10 98 yX3_isFull, Cond.instanceMethod yX3_isFull, Cond.selects RX3 yX3_isFull yX3_isFull, Cond.code yX3_isFull cX3_isFull 1 (some .boolean), Cond.methodLink RX10 107 yX3_addWord, Cond.instanceMethod yX3_addWord, Cond.selects RX3 yX3_addWord yX3_addWord, Cond.code yX3_addWord cX3_addWord 2 (some .int), Cond.methodLink RL 178 yL_tells, Cond.static yL_tells, Cond.codeWith yL_tells cL_tells 8 (some .int) [(0, 13, 14, 80), (0, 13, 20, 73), (0, 13, 26, 75)], Cond.classLink RL 80 "java/lang/IndexOutOfBoundsException", Cond.methodLink RL 77 yX10_reading, Cond.instanceMethod yX10_reading, Cond.selects RX10 yX10_reading yX10_reading, Cond.code yX10_reading cX10_reading 8 (some .int), Cond.methodLink RX10 111 yX10_requireWord, Cond.instanceMethod yX10_requireWord]
def wsL_law0_r9 : List Cond := [Cond.selects RX10 yX10_requireWord yX10_requireWord, Cond.code yX10_requireWord cX10_requireWord 2 none, Cond.classLink RX10 177 "java/lang/IndexOutOfBoundsException", Cond.initialized "java/lang/IndexOutOfBoundsException", Cond.methodLink RX10 367 yX3_hasWord, Cond.instanceMethod yX3_hasWord, Cond.selects RX3 yX3_hasWord yX3_hasWord, Cond.code yX3_hasWord cX3_hasWord 2 (some .boolean), Cond.methodLink RX10 115 yX10_areFeatures, Cond.static yX10_areFeatures, Cond.code yX10_areFeatures cX10_areFeatures 3 (some .boolean), Cond.methodLink RX10 121 yX3_isRowFull, Cond.instanceMethod yX3_isRowFull, Cond.selects RX3 yX3_isRowFull yX3_isRowFull, Cond.code yX3_isRowFull cX3_isRowFull 2 (some .boolean), Cond.methodLink RX10 127 yX10_pack, Cond.static yX10_pack, Cond.code yX10_pack cX10_pack 3 (some .int), Cond.methodLink RX10 131 yX3_addToRow, Cond.instanceMethod yX3_addToRow, Cond.selects RX3 yX3_addToRow yX3_addToRow, Cond.code yX3_addToRow cX3_addToRow 6 (some .int), Cond.methodLink RX3 35 yX3_isRowFull, Cond.methodLink RX10 135 yX10_outdateAll]
def wsL_law0_r10 : List Cond := [Cond.instanceMethod yX10_outdateAll, Cond.selects RX10 yX10_outdateAll yX10_outdateAll, Cond.code yX10_outdateAll cX10_outdateAll 2 none, Cond.methodLink RX10 207 yX6_outdate, Cond.instanceMethod yX6_outdate, Cond.selects RX6 yX6_outdate yX6_outdate, Cond.code yX6_outdate cX6_outdate 1 none, Cond.methodLink RL 182 yL_guesses, Cond.static yL_guesses, Cond.codeWith yL_guesses cL_guesses 7 (some .int) [(0, 11, 12, 73), (0, 11, 18, 75)], Cond.methodLink RL 82 yX10_guess, Cond.instanceMethod yX10_guess, Cond.selects RX10 yX10_guess yX10_guess, Cond.code yX10_guess cX10_guess 8 (some .int), Cond.methodLink RL 245 yL_grammar, Cond.static yL_grammar, Cond.code yL_grammar cL_grammar 18 (some .boolean), Cond.methodLink RL 186 yL_four, Cond.static yL_four, Cond.codeWith yL_four cL_four 7 (some .int) [(0, 61, 62, 80), (0, 61, 68, 73), (0, 61, 74, 75)], Cond.methodLink RL 86 yX10_sure, Cond.instanceMethod yX10_sure, Cond.selects RX10 yX10_sure yX10_sure, Cond.code yX10_sure cX10_sure 6 (some .int)]
def wsL_law0_r11 : List Cond := [Cond.methodLink RX10 150 yX7_isFull, Cond.instanceMethod yX7_isFull, Cond.selects RX7 yX7_isFull yX7_isFull, Cond.code yX7_isFull cX7_isFull 1 (some .boolean), Cond.methodLink RX10 153 yX7_addSure, Cond.instanceMethod yX7_addSure, Cond.selects RX7 yX7_addSure yX7_addSure, Cond.code yX7_addSure cX7_addSure 4 (some .int), Cond.methodLink RX7 32 yX7_add, Cond.instanceMethod yX7_add, Cond.selects RX7 yX7_add yX7_add, Cond.code yX7_add cX7_add 6 (some .int), Cond.methodLink RL 90 yX10_seen, Cond.instanceMethod yX10_seen, Cond.selects RX10 yX10_seen yX10_seen, Cond.code yX10_seen cX10_seen 7 (some .int), Cond.methodLink RX10 156 yX10_isCategoryOrNone, Cond.static yX10_isCategoryOrNone, Cond.code yX10_isCategoryOrNone cX10_isCategoryOrNone 1 (some .boolean), Cond.methodLink RX10 161 yX7_addSeen, Cond.instanceMethod yX7_addSeen, Cond.selects RX7 yX7_addSeen yX7_addSeen, Cond.code yX7_addSeen cX7_addSeen 5 (some .int), Cond.methodLink RL 94 yX10_rule]
def wsL_law0_r12 : List Cond := [Cond.instanceMethod yX10_rule, Cond.selects RX10 yX10_rule yX10_rule, Cond.code yX10_rule cX10_rule 7 (some .int), Cond.methodLink RX10 168 yX2_isFull, Cond.instanceMethod yX2_isFull, Cond.selects RX2 yX2_isFull yX2_isFull, Cond.code yX2_isFull cX2_isFull 1 (some .boolean), Cond.methodLink RX10 171 yX2_addRule, Cond.instanceMethod yX2_addRule, Cond.selects RX2 yX2_addRule yX2_addRule, Cond.code yX2_addRule cX2_addRule 5 (some .int), Cond.methodLink RX2 66 yX2_addSingle, Cond.instanceMethod yX2_addSingle, Cond.selects RX2 yX2_addSingle yX2_addSingle, Cond.code yX2_addSingle cX2_addSingle 4 none, Cond.methodLink RX2 70 Lib.Math.min.name, Cond.static Lib.Math.min.name, Cond.initialized "java/lang/Math", Cond.code Lib.Math.min.name Lib.Math.min.code 2 (some .int), Cond.methodLink RX2 76 yX2_parentOf, Cond.instanceMethod yX2_parentOf, Cond.selects RX2 yX2_parentOf yX2_parentOf, Cond.code yX2_parentOf cX2_parentOf 2 (some .int), Cond.methodLink RL 97 yX10_pattern]
def wsL_law0_r13 : List Cond := [Cond.instanceMethod yX10_pattern, Cond.selects RX10 yX10_pattern yX10_pattern, Cond.code yX10_pattern cX10_pattern 5 (some .int), Cond.methodLink RX10 338 yX8_hasPattern, Cond.instanceMethod yX8_hasPattern, Cond.selects RX8 yX8_hasPattern yX8_hasPattern, Cond.code yX8_hasPattern cX8_hasPattern 2 (some .boolean), Cond.methodLink RX10 345 yX8_isFull, Cond.instanceMethod yX8_isFull, Cond.selects RX8 yX8_isFull yX8_isFull, Cond.code yX8_isFull cX8_isFull 1 (some .boolean), Cond.methodLink RX10 348 yX8_addPattern, Cond.instanceMethod yX8_addPattern, Cond.selects RX8 yX8_addPattern yX8_addPattern, Cond.code yX8_addPattern cX8_addPattern 5 (some .int), Cond.methodLink RL 189 yL_equates, Cond.static yL_equates, Cond.codeWith yL_equates cL_equates 7 (some .int) [(0, 11, 12, 80), (0, 11, 18, 73), (0, 11, 24, 75)], Cond.methodLink RL 100 yX10_equate, Cond.instanceMethod yX10_equate, Cond.selects RX10 yX10_equate yX10_equate, Cond.code yX10_equate cX10_equate 7 (some .int), Cond.methodLink RX10 174 yX2_hasRule, Cond.instanceMethod yX2_hasRule]
def wsL_law0_r14 : List Cond := [Cond.selects RX2 yX2_hasRule yX2_hasRule, Cond.code yX2_hasRule cX2_hasRule 2 (some .boolean), Cond.methodLink RX10 184 yX2_rightOf, Cond.instanceMethod yX2_rightOf, Cond.selects RX2 yX2_rightOf yX2_rightOf, Cond.code yX2_rightOf cX2_rightOf 2 (some .int), Cond.methodLink RX10 189 yX2_isRuleFull, Cond.instanceMethod yX2_isRuleFull, Cond.selects RX2 yX2_isRuleFull yX2_isRuleFull, Cond.code yX2_isRuleFull cX2_isRuleFull 2 (some .boolean), Cond.methodLink RX2 58 yX2_hasRule, Cond.methodLink RX10 194 yX2_addEquation, Cond.instanceMethod yX2_addEquation, Cond.selects RX2 yX2_addEquation yX2_addEquation, Cond.code yX2_addEquation cX2_addEquation 7 (some .int), Cond.methodLink RX2 80 yX2_isRuleFull, Cond.methodLink RL 249 yL_texts, Cond.static yL_texts, Cond.code yL_texts cL_texts 12 (some .boolean), Cond.methodLink RL 192 yL_two, Cond.static yL_two, Cond.codeWith yL_two cL_two 5 (some .int) [(0, 119, 120, 80), (0, 119, 126, 75)], Cond.methodLink RL 103 yX10_append, Cond.instanceMethod yX10_append]
def wsL_law0_r15 : List Cond := [Cond.selects RX10 yX10_append yX10_append, Cond.code yX10_append cX10_append 4 (some .int), Cond.methodLink RX10 198 yX10_sentenceAt, Cond.instanceMethod yX10_sentenceAt, Cond.selects RX10 yX10_sentenceAt yX10_sentenceAt, Cond.code yX10_sentenceAt cX10_sentenceAt 2 (some (.object "ReadingChart$Sentence")), Cond.methodLink RX10 202 yX6_isFull, Cond.instanceMethod yX6_isFull, Cond.selects RX6 yX6_isFull yX6_isFull, Cond.code yX6_isFull cX6_isFull 1 (some .boolean), Cond.methodLink RX10 205 yX6_addWord, Cond.instanceMethod yX6_addWord, Cond.selects RX6 yX6_addWord yX6_addWord, Cond.code yX6_addWord cX6_addWord 2 none, Cond.methodLink RL 106 yX10_remove, Cond.instanceMethod yX10_remove, Cond.selects RX10 yX10_remove yX10_remove, Cond.code yX10_remove cX10_remove 5 (some .int), Cond.methodLink RX10 213 yX10_requirePlace, Cond.static yX10_requirePlace, Cond.code yX10_requirePlace cX10_requirePlace 2 none, Cond.methodLink RX10 217 yX6_wordIn, Cond.instanceMethod yX6_wordIn, Cond.selects RX6 yX6_wordIn yX6_wordIn]
def wsL_law0_r16 : List Cond := [Cond.code yX6_wordIn cX6_wordIn 2 (some .int), Cond.methodLink RX10 224 yX6_takeOut, Cond.instanceMethod yX6_takeOut, Cond.selects RX6 yX6_takeOut yX6_takeOut, Cond.code yX6_takeOut cX6_takeOut 3 none, Cond.methodLink RL 109 yX10_wordAt, Cond.instanceMethod yX10_wordAt, Cond.selects RX10 yX10_wordAt yX10_wordAt, Cond.code yX10_wordAt cX10_wordAt 4 (some .int), Cond.methodLink RL 112 yX10_left, Cond.instanceMethod yX10_left, Cond.selects RX10 yX10_left yX10_left, Cond.code yX10_left cX10_left 4 (some .int), Cond.methodLink RX10 227 yX10_strikeAsNeeded, Cond.instanceMethod yX10_strikeAsNeeded, Cond.selects RX10 yX10_strikeAsNeeded yX10_strikeAsNeeded, Cond.code yX10_strikeAsNeeded cX10_strikeAsNeeded 2 none, Cond.methodLink RX10 386 yX7_strike, Cond.instanceMethod yX7_strike, Cond.selects RX7 yX7_strike yX7_strike, Cond.code yX7_strike cX7_strike 9 none, Cond.methodLink RX7 40 yX6_leaveAll, Cond.instanceMethod yX6_leaveAll, Cond.selects RX6 yX6_leaveAll yX6_leaveAll]
def wsL_law0_r17 : List Cond := [Cond.code yX6_leaveAll cX6_leaveAll 6 none, Cond.methodLink RX6 54 Lib.Math.min.name, Cond.methodLink RX6 45 yX3_rowOf, Cond.instanceMethod yX3_rowOf, Cond.selects RX3 yX3_rowOf yX3_rowOf, Cond.code yX3_rowOf cX3_rowOf 2 (some .int), Cond.methodLink RX6 51 yX3_filledIn, Cond.instanceMethod yX3_filledIn, Cond.selects RX3 yX3_filledIn yX3_filledIn, Cond.code yX3_filledIn cX3_filledIn 2 (some .int), Cond.methodLink RX6 60 yX3_categoryIn, Cond.instanceMethod yX3_categoryIn, Cond.selects RX3 yX3_categoryIn yX3_categoryIn, Cond.code yX3_categoryIn cX3_categoryIn 4 (some .int), Cond.methodLink RX6 63 yX3_featuresIn, Cond.instanceMethod yX3_featuresIn, Cond.selects RX3 yX3_featuresIn yX3_featuresIn, Cond.code yX3_featuresIn cX3_featuresIn 4 (some .int), Cond.methodLink RX7 47 yX6_leftOf, Cond.instanceMethod yX6_leftOf, Cond.selects RX6 yX6_leftOf yX6_leftOf, Cond.code yX6_leftOf cX6_leftOf 5 (some .int), Cond.methodLink RX7 51 yX6_leftIn, Cond.instanceMethod yX6_leftIn]
def wsL_law0_r18 : List Cond := [Cond.selects RX6 yX6_leftIn yX6_leftIn, Cond.code yX6_leftIn cX6_leftIn 2 (some .int), Cond.methodLink RX7 55 yX7_holdsSure, Cond.instanceMethod yX7_holdsSure, Cond.selects RX7 yX7_holdsSure yX7_holdsSure, Cond.code yX7_holdsSure cX7_holdsSure 6 (some .boolean), Cond.methodLink RX7 59 yX7_holdsSeen, Cond.instanceMethod yX7_holdsSeen, Cond.selects RX7 yX7_holdsSeen yX7_holdsSeen, Cond.code yX7_holdsSeen cX7_holdsSeen 6 (some .boolean), Cond.methodLink RX7 62 yX6_strikeOut, Cond.instanceMethod yX6_strikeOut, Cond.selects RX6 yX6_strikeOut yX6_strikeOut, Cond.code yX6_strikeOut cX6_strikeOut 3 none, Cond.methodLink RX10 231 yX6_leftIn, Cond.methodLink RL 115 yX10_referent, Cond.instanceMethod yX10_referent, Cond.selects RX10 yX10_referent yX10_referent, Cond.code yX10_referent cX10_referent 4 (some .int), Cond.methodLink RX10 234 yX10_strikeUpTo, Cond.instanceMethod yX10_strikeUpTo, Cond.selects RX10 yX10_strikeUpTo yX10_strikeUpTo, Cond.code yX10_strikeUpTo cX10_strikeUpTo 3 none, Cond.methodLink RX10 390 Lib.Math.max.name]
def wsL_law0_r19 : List Cond := [Cond.static Lib.Math.max.name, Cond.code Lib.Math.max.name Lib.Math.max.code 2 (some .int), Cond.methodLink RX10 237 yX10_refers, Cond.instanceMethod yX10_refers, Cond.selects RX10 yX10_refers yX10_refers, Cond.code yX10_refers cX10_refers 8 (some .boolean), Cond.methodLink RX10 395 yX6_firstOf, Cond.instanceMethod yX6_firstOf, Cond.selects RX6 yX6_firstOf yX6_firstOf, Cond.code yX6_firstOf cX6_firstOf 5 (some .int), Cond.methodLink RX6 66 yX6_leftOf, Cond.methodLink RX10 398 yX6_featuresOf, Cond.instanceMethod yX6_featuresOf, Cond.selects RX6 yX6_featuresOf yX6_featuresOf, Cond.code yX6_featuresOf cX6_featuresOf 4 (some .int), Cond.methodLink RX10 400 yX5_lookIn, Cond.instanceMethod yX5_lookIn, Cond.selects RX5 yX5_lookIn yX5_lookIn, Cond.code yX5_lookIn cX5_lookIn 9 (some .boolean), Cond.methodLink RX5 26 Lib.Math.min.name, Cond.methodLink RX5 32 yX6_leftOf, Cond.methodLink RX5 35 yX6_featuresOf, Cond.methodLink RX5 38 yX5_agree, Cond.static yX5_agree]
def wsL_law0_r20 : List Cond := [Cond.code yX5_agree cX5_agree 5 (some .boolean), Cond.methodLink RL 118 yX10_fault, Cond.instanceMethod yX10_fault, Cond.selects RX10 yX10_fault yX10_fault, Cond.code yX10_fault cX10_fault 6 (some .int), Cond.methodLink RX10 251 yX10_readAsNeeded, Cond.instanceMethod yX10_readAsNeeded, Cond.selects RX10 yX10_readAsNeeded yX10_readAsNeeded, Cond.code yX10_readAsNeeded cX10_readAsNeeded 3 (some (.object "ReadingChart$Chart")), Cond.methodLink RX10 407 yX10_findGiven, Cond.instanceMethod yX10_findGiven, Cond.selects RX10 yX10_findGiven yX10_findGiven, Cond.code yX10_findGiven cX10_findGiven 4 none, Cond.methodLink RX10 414 yX6_isGiven, Cond.instanceMethod yX6_isGiven, Cond.selects RX6 yX6_isGiven yX6_isGiven, Cond.code yX6_isGiven cX6_isGiven 3 (some .boolean), Cond.methodLink RX10 418 yX6_giveAll, Cond.instanceMethod yX6_giveAll, Cond.selects RX6 yX6_giveAll yX6_giveAll, Cond.code yX6_giveAll cX6_giveAll 3 none, Cond.methodLink RX10 422 yX4_read, Cond.instanceMethod yX4_read, Cond.selects RX4 yX4_read yX4_read]
def wsL_law0_r21 : List Cond := [Cond.code yX4_read cX4_read 9 none, Cond.methodLink RX4 19 yX0_clear, Cond.instanceMethod yX0_clear, Cond.selects RX0 yX0_clear yX0_clear, Cond.code yX0_clear cX0_clear 3 none, Cond.static yX10_spanOf, Cond.code yX10_spanOf cX10_spanOf 2 (some .int), Cond.methodLink RX4 29 yX4_readWord, Cond.static yX4_readWord, Cond.code yX4_readWord cX4_readWord 5 none, Cond.methodLink RX4 56 yX6_isLeft, Cond.instanceMethod yX6_isLeft, Cond.selects RX6 yX6_isLeft yX6_isLeft, Cond.code yX6_isLeft cX6_isLeft 4 (some .boolean), Cond.methodLink RX4 60 yX6_featuresAsGiven, Cond.instanceMethod yX6_featuresAsGiven, Cond.selects RX6 yX6_featuresAsGiven yX6_featuresAsGiven, Cond.code yX6_featuresAsGiven cX6_featuresAsGiven 5 (some .int), Cond.methodLink RX4 63 yX6_categoryOf, Cond.instanceMethod yX6_categoryOf, Cond.selects RX6 yX6_categoryOf yX6_categoryOf, Cond.code yX6_categoryOf cX6_categoryOf 4 (some .int), Cond.methodLink RX4 66 yX0_add, Cond.instanceMethod yX0_add]
def wsL_law0_r22 : List Cond := [Cond.selects RX0 yX0_add yX0_add, Cond.code yX0_add cX0_add 8 (some .int), Cond.methodLink RX4 70 yX0_tellUse, Cond.instanceMethod yX0_tellUse, Cond.selects RX0 yX0_tellUse yX0_tellUse, Cond.code yX0_tellUse cX0_tellUse 6 none, Cond.methodLink RX4 38 yX2_rightOf, Cond.methodLink RX4 42 yX4_use, Cond.static yX4_use, Cond.code yX4_use cX4_use 14 none, Cond.methodLink RX4 74 yX0_edgesOf, Cond.instanceMethod yX0_edgesOf, Cond.selects RX0 yX0_edgesOf yX0_edgesOf, Cond.code yX0_edgesOf cX0_edgesOf 2 (some .int), Cond.methodLink RX4 77 yX0_categoryOf, Cond.instanceMethod yX0_categoryOf, Cond.selects RX0 yX0_categoryOf yX0_categoryOf, Cond.code yX0_categoryOf cX0_categoryOf 2 (some .int), Cond.methodLink RX4 79 yX2_leftOf, Cond.instanceMethod yX2_leftOf, Cond.selects RX2 yX2_leftOf yX2_leftOf, Cond.code yX2_leftOf cX2_leftOf 2 (some .int), Cond.methodLink RX4 82 yX0_featuresOf, Cond.instanceMethod yX0_featuresOf]
def wsL_law0_r23 : List Cond := [Cond.selects RX0 yX0_featuresOf yX0_featuresOf, Cond.code yX0_featuresOf cX0_featuresOf 2 (some .int), Cond.methodLink RX4 85 yX2_unify, Cond.instanceMethod yX2_unify, Cond.selects RX2 yX2_unify yX2_unify, Cond.code yX2_unify cX2_unify 6 (some .boolean), Cond.methodLink RX2 86 yX2_settle, Cond.instanceMethod yX2_settle, Cond.selects RX2 yX2_settle yX2_settle, Cond.code yX2_settle cX2_settle 8 (some .boolean), Cond.methodLink RX4 89 yX0_priceOf, Cond.instanceMethod yX0_priceOf, Cond.selects RX0 yX0_priceOf yX0_priceOf, Cond.code yX0_priceOf cX0_priceOf 2 (some .int), Cond.methodLink RX4 95 yX2_parentOf, Cond.methodLink RX4 98 yX2_parentFeatures, Cond.instanceMethod yX2_parentFeatures, Cond.selects RX2 yX2_parentFeatures yX2_parentFeatures, Cond.code yX2_parentFeatures cX2_parentFeatures 1 (some .int), Cond.methodLink RX4 49 yX2_singleAt, Cond.instanceMethod yX2_singleAt, Cond.selects RX2 yX2_singleAt yX2_singleAt, Cond.code yX2_singleAt cX2_singleAt 2 (some .int), Cond.methodLink RX10 296 yX10_faultAt]
def wsL_law0_r24 : List Cond := [Cond.instanceMethod yX10_faultAt, Cond.selects RX10 yX10_faultAt yX10_faultAt, Cond.code yX10_faultAt cX10_faultAt 4 (some .int), Cond.methodLink RX10 284 yX9_grow, Cond.instanceMethod yX9_grow, Cond.selects RX9 yX9_grow yX9_grow, Cond.code yX9_grow cX9_grow 7 none, Cond.methodLink RX9 28 yX0_wholeEdge, Cond.instanceMethod yX0_wholeEdge, Cond.selects RX0 yX0_wholeEdge yX0_wholeEdge, Cond.code yX0_wholeEdge cX0_wholeEdge 1 (some .int), Cond.methodLink RX0 63 yX0_cheapest, Cond.instanceMethod yX0_cheapest, Cond.selects RX0 yX0_cheapest yX0_cheapest, Cond.code yX0_cheapest cX0_cheapest 7 (some .int), Cond.methodLink RX9 34 yX0_partOf, Cond.instanceMethod yX0_partOf, Cond.selects RX0 yX0_partOf yX0_partOf, Cond.code yX0_partOf cX0_partOf 3 (some .int), Cond.methodLink RX10 326 yX9_findRelaxed, Cond.instanceMethod yX9_findRelaxed, Cond.selects RX9 yX9_findRelaxed yX9_findRelaxed, Cond.code yX9_findRelaxed cX9_findRelaxed 6 (some .int), Cond.methodLink RX9 38 yX0_isRelaxed]
def wsL_law0_r25 : List Cond := [Cond.instanceMethod yX0_isRelaxed, Cond.selects RX0 yX0_isRelaxed yX0_isRelaxed, Cond.code yX0_isRelaxed cX0_isRelaxed 3 (some .boolean), Cond.methodLink RX0 57 yX0_relaxedBits, Cond.instanceMethod yX0_relaxedBits, Cond.selects RX0 yX0_relaxedBits yX0_relaxedBits, Cond.code yX0_relaxedBits cX0_relaxedBits 3 (some .int), Cond.methodLink RX10 300 yX0_ruleOf, Cond.instanceMethod yX0_ruleOf, Cond.selects RX0 yX0_ruleOf yX0_ruleOf, Cond.code yX0_ruleOf cX0_ruleOf 2 (some .int), Cond.methodLink RX10 303 yX10_placeOfEdge, Cond.static yX10_placeOfEdge, Cond.code yX10_placeOfEdge cX10_placeOfEdge 1 (some .int), Cond.methodLink RX10 306 yX10_wordsOfEdge, Cond.static yX10_wordsOfEdge, Cond.code yX10_wordsOfEdge cX10_wordsOfEdge 1 (some .int), Cond.methodLink RL 121 yX10_fragment, Cond.instanceMethod yX10_fragment, Cond.selects RX10 yX10_fragment yX10_fragment, Cond.code yX10_fragment cX10_fragment 4 (some .int), Cond.methodLink RX10 309 yX1_cut, Cond.instanceMethod yX1_cut, Cond.selects RX1 yX1_cut yX1_cut]
def wsL_law0_r26 : List Cond := [Cond.code yX1_cut cX1_cut 4 none, Cond.methodLink RX1 28 Lib.Math.min.name, Cond.methodLink RX1 34 Lib.Math.max.name, Cond.methodLink RX1 37 yX1_weigh, Cond.instanceMethod yX1_weigh, Cond.selects RX1 yX1_weigh yX1_weigh, Cond.code yX1_weigh cX1_weigh 8 none, Cond.methodLink RX1 44 yX0_cheapest, Cond.methodLink RX1 47 yX0_priceOf, Cond.methodLink RX10 312 yX1_pieces, Cond.instanceMethod yX1_pieces, Cond.selects RX1 yX1_pieces yX1_pieces, Cond.code yX1_pieces cX1_pieces 1 (some .int), Cond.methodLink RX10 317 yX1_placeOf, Cond.instanceMethod yX1_placeOf, Cond.selects RX1 yX1_placeOf yX1_placeOf, Cond.code yX1_placeOf cX1_placeOf 4 (some .int), Cond.methodLink RX1 51 yX1_wordsFrom, Cond.instanceMethod yX1_wordsFrom, Cond.selects RX1 yX1_wordsFrom yX1_wordsFrom, Cond.code yX1_wordsFrom cX1_wordsFrom 2 (some .int), Cond.methodLink RX10 320 yX1_wordsFrom, Cond.methodLink RL 124 yX10_mend, Cond.instanceMethod yX10_mend]
def wsL_law0_r27 : List Cond := [Cond.selects RX10 yX10_mend yX10_mend, Cond.code yX10_mend cX10_mend 4 (some .int), Cond.methodLink RX10 323 yX10_mendOf, Cond.instanceMethod yX10_mendOf, Cond.selects RX10 yX10_mendOf yX10_mendOf, Cond.code yX10_mendOf cX10_mendOf 5 (some .int), Cond.methodLink RX10 430 yX10_mendToTry, Cond.instanceMethod yX10_mendToTry, Cond.selects RX10 yX10_mendToTry yX10_mendToTry, Cond.code yX10_mendToTry cX10_mendToTry 13 (some .int), Cond.methodLink RX10 437 yX2_oneOf, Cond.instanceMethod yX2_oneOf, Cond.selects RX2 yX2_oneOf yX2_oneOf, Cond.code yX2_oneOf cX2_oneOf 4 (some .int), Cond.methodLink RX2 83 yX2_slotOf, Cond.instanceMethod yX2_slotOf, Cond.selects RX2 yX2_slotOf yX2_slotOf, Cond.code yX2_slotOf cX2_slotOf 4 (some .int), Cond.methodLink RX10 440 yX0_otherThen, Cond.instanceMethod yX0_otherThen, Cond.selects RX0 yX0_otherThen yX0_otherThen, Cond.code yX0_otherThen cX0_otherThen 3 (some .int), Cond.methodLink RX10 443 yX2_otherOf, Cond.instanceMethod yX2_otherOf]
def wsL_law0_r28 : List Cond := [Cond.selects RX2 yX2_otherOf yX2_otherOf, Cond.code yX2_otherOf cX2_otherOf 4 (some .int), Cond.methodLink RX10 446 yX0_oneThen, Cond.instanceMethod yX0_oneThen, Cond.selects RX0 yX0_oneThen yX0_oneThen, Cond.code yX0_oneThen cX0_oneThen 3 (some .int), Cond.methodLink RX10 449 yX0_partOf, Cond.methodLink RX10 452 yX0_headOf, Cond.instanceMethod yX0_headOf, Cond.selects RX0 yX0_headOf yX0_headOf, Cond.code yX0_headOf cX0_headOf 5 (some .int), Cond.methodLink RX0 40 yX0_ruleOf, Cond.methodLink RX0 44 yX2_headOf, Cond.instanceMethod yX2_headOf, Cond.selects RX2 yX2_headOf yX2_headOf, Cond.code yX2_headOf cX2_headOf 2 (some .int), Cond.methodLink RX0 49 yX0_partOf, Cond.methodLink RX10 456 yX0_readingOf, Cond.instanceMethod yX0_readingOf, Cond.selects RX0 yX0_readingOf yX0_readingOf, Cond.code yX0_readingOf cX0_readingOf 2 (some .int), Cond.methodLink RX10 459 yX2_featureOf, Cond.instanceMethod yX2_featureOf, Cond.selects RX2 yX2_featureOf yX2_featureOf]
def wsL_law0_r29 : List Cond := [Cond.code yX2_featureOf cX2_featureOf 4 (some .int), Cond.methodLink RX10 462 yX10_withValue, Cond.static yX10_withValue, Cond.code yX10_withValue cX10_withValue 3 (some .int), Cond.methodLink RX10 465 yX3_lemmaOf, Cond.instanceMethod yX3_lemmaOf, Cond.selects RX3 yX3_lemmaOf yX3_lemmaOf, Cond.code yX3_lemmaOf cX3_lemmaOf 4 (some .int), Cond.methodLink RX3 39 yX3_rowOf, Cond.methodLink RX3 43 yX3_filledIn, Cond.methodLink RX10 468 yX6_categoryOf, Cond.methodLink RX10 470 yX3_lowestTold, Cond.instanceMethod yX3_lowestTold, Cond.selects RX3 yX3_lowestTold yX3_lowestTold, Cond.code yX3_lowestTold cX3_lowestTold 7 (some .int), Cond.methodLink RX10 434 yX10_priceWith, Cond.instanceMethod yX10_priceWith, Cond.selects RX10 yX10_priceWith yX10_priceWith, Cond.code yX10_priceWith cX10_priceWith 4 (some .int), Cond.methodLink RX10 473 yX6_copyWords, Cond.instanceMethod yX6_copyWords, Cond.selects RX6 yX6_copyWords yX6_copyWords, Cond.code yX6_copyWords cX6_copyWords 3 none, Cond.methodLink RX10 335 yX10_putMend]
def wsL_law0_r30 : List Cond := [Cond.static yX10_putMend, Cond.code yX10_putMend cX10_putMend 2 none, Cond.methodLink RX10 220 yX6_putWord, Cond.instanceMethod yX6_putWord, Cond.selects RX6 yX6_putWord yX6_putWord, Cond.code yX6_putWord cX6_putWord 3 none, Cond.methodLink RX10 280 yX0_wholePrice, Cond.instanceMethod yX0_wholePrice, Cond.selects RX0 yX0_wholePrice yX0_wholePrice, Cond.code yX0_wholePrice cX0_wholePrice 2 (some .int), Cond.methodLink RX0 66 yX0_wholeEdge, Cond.methodLink RX0 70 yX0_priceOf, Cond.methodLink RL 127 yX10_styleFault, Cond.instanceMethod yX10_styleFault, Cond.selects RX10 yX10_styleFault yX10_styleFault, Cond.code yX10_styleFault cX10_styleFault 5 (some .int), Cond.methodLink RX10 361 yX8_faultNumber, Cond.instanceMethod yX8_faultNumber, Cond.selects RX8 yX8_faultNumber yX8_faultNumber, Cond.code yX8_faultNumber cX8_faultNumber 7 (some .int), Cond.methodLink RX8 55 yX8_standing, Cond.instanceMethod yX8_standing, Cond.selects RX8 yX8_standing yX8_standing, Cond.code yX8_standing cX8_standing 6 (some .int)]
def wsL_law0_r31 : List Cond := [Cond.methodLink RX8 50 yX8_fits, Cond.instanceMethod yX8_fits, Cond.selects RX8 yX8_fits yX8_fits, Cond.code yX8_fits cX8_fits 6 (some .boolean), Cond.methodLink RX8 37 yX6_wordIn, Cond.methodLink RX8 43 yX8_isOff, Cond.instanceMethod yX8_isOff, Cond.selects RX8 yX8_isOff yX8_isOff, Cond.code yX8_isOff cX8_isOff 3 (some .boolean), Cond.methodLink RX8 33 yX8_hasPattern, Cond.methodLink RX8 46 yX6_leftOf, Cond.methodLink RL 196 yL_more, Cond.static yL_more, Cond.codeWith yL_more cL_more 7 (some .int) [(0, 59, 60, 80)], Cond.methodLink RL 156 yX10_change, Cond.instanceMethod yX10_change, Cond.selects RX10 yX10_change yX10_change, Cond.code yX10_change cX10_change 6 (some .int), Cond.methodLink RL 159 yX10_edges, Cond.instanceMethod yX10_edges, Cond.selects RX10 yX10_edges yX10_edges, Cond.code yX10_edges cX10_edges 5 (some .int), Cond.methodLink RX10 247 yX10_requireSpan, Cond.static yX10_requireSpan]
def wsL_law0_r32 : List Cond := [Cond.code yX10_requireSpan cX10_requireSpan 3 none, Cond.methodLink RX10 255 yX10_spanOf, Cond.methodLink RX10 259 yX0_edgesOf, Cond.methodLink RL 162 yX10_edge, Cond.instanceMethod yX10_edge, Cond.selects RX10 yX10_edge yX10_edge, Cond.code yX10_edge cX10_edge 8 (some .int), Cond.methodLink RX10 264 yX10_edgeAt, Cond.static yX10_edgeAt, Cond.code yX10_edgeAt cX10_edgeAt 3 (some .int), Cond.methodLink RX10 268 yX0_featuresOf, Cond.methodLink RX10 271 yX0_categoryOf, Cond.methodLink RX10 274 yX10_valueOf, Cond.static yX10_valueOf, Cond.code yX10_valueOf cX10_valueOf 2 (some .int), Cond.methodLink RL 165 yX10_edgeCost, Cond.instanceMethod yX10_edgeCost, Cond.selects RX10 yX10_edgeCost yX10_edgeCost, Cond.code yX10_edgeCost cX10_edgeCost 6 (some .int), Cond.methodLink RX10 277 yX0_priceOf, Cond.methodLink RL 253 yL_patterns, Cond.static yL_patterns, Cond.code yL_patterns cL_patterns 11 (some .boolean), Cond.methodLink RL 199 yL_offs]
def wsL_law0_r33 : List Cond := [Cond.static yL_offs, Cond.codeWith yL_offs cL_offs 4 (some .int) [(0, 14, 15, 80)], Cond.methodLink RL 168 yX10_off, Cond.instanceMethod yX10_off, Cond.selects RX10 yX10_off yX10_off, Cond.code yX10_off cX10_off 3 (some .boolean), Cond.methodLink RX10 351 yX8_switchAltogether, Cond.instanceMethod yX8_switchAltogether, Cond.selects RX8 yX8_switchAltogether yX8_switchAltogether, Cond.code yX8_switchAltogether cX8_switchAltogether 2 (some .boolean), Cond.methodLink RX10 354 yX8_switchFor, Cond.instanceMethod yX8_switchFor, Cond.selects RX8 yX8_switchFor yX8_switchFor, Cond.code yX8_switchFor cX8_switchFor 4 (some .boolean), Cond.methodLink RL 256 yL_asks, Cond.static yL_asks, Cond.code yL_asks cL_asks 30 (some .boolean), Cond.methodLink RL 203 yL_looks, Cond.static yL_looks, Cond.code yL_looks cL_looks 9 none, Cond.methodLink RL 31 yL_strikes, Cond.static yL_strikes, Cond.code yL_strikes cL_strikes 13 none, Cond.methodLink RL 9 yL_readings]
def wsL_law0_r34 : List Cond := [Cond.static yL_readings, Cond.code yL_readings cL_readings 3 (some .int), Cond.methodLink RL 19 yL_leftOf, Cond.static yL_leftOf, Cond.code yL_leftOf cL_leftOf 8 (some .int), Cond.methodLink RL 15 yL_reading, Cond.static yL_reading, Cond.code yL_reading cL_reading 4 (some .int), Cond.methodLink RL 23 yL_holds, Cond.static yL_holds, Cond.code yL_holds cL_holds 15 (some .boolean), Cond.methodLink RL 35 yL_refers, Cond.static yL_refers, Cond.code yL_refers cL_refers 14 none, Cond.methodLink RL 27 yL_agree, Cond.static yL_agree, Cond.code yL_agree cL_agree 2 (some .boolean), Cond.methodLink RL 207 yL_style, Cond.static yL_style, Cond.code yL_style cL_style 15 (some .int), Cond.methodLink RL 63 yL_stands, Cond.static yL_stands, Cond.code yL_stands cL_stands 13 (some .boolean), Cond.methodLink RL 211 yL_one]
def wsL_law0_r35 : List Cond := [Cond.static yL_one, Cond.codeWith yL_one cL_one 4 (some .int) [(0, 110, 111, 80)], Cond.methodLink RL 130 yX10_readings, Cond.instanceMethod yX10_readings, Cond.selects RX10 yX10_readings yX10_readings, Cond.code yX10_readings cX10_readings 2 (some .int), Cond.methodLink RX10 142 yX3_rowOf, Cond.methodLink RX10 145 yX3_filledIn, Cond.methodLink RL 132 yX10_length, Cond.instanceMethod yX10_length, Cond.selects RX10 yX10_length yX10_length, Cond.code yX10_length cX10_length 2 (some .int), Cond.methodLink RL 135 yX10_cost, Cond.instanceMethod yX10_cost, Cond.selects RX10 yX10_cost yX10_cost, Cond.code yX10_cost cX10_cost 2 (some .int), Cond.methodLink RL 138 yX10_costAnew, Cond.instanceMethod yX10_costAnew, Cond.selects RX10 yX10_costAnew yX10_costAnew, Cond.code yX10_costAnew cX10_costAnew 3 (some .int), Cond.methodLink RX10 288 yX9_priceAnew, Cond.instanceMethod yX9_priceAnew, Cond.selects RX9 yX9_priceAnew yX9_priceAnew, Cond.code yX9_priceAnew cX9_priceAnew 8 (some .int)]
def wsL_law0_r36 : List Cond := [Cond.methodLink RX9 42 yX0_ruleOf, Cond.methodLink RX9 46 yX0_featuresOf, Cond.methodLink RX9 49 yX9_useAnew, Cond.instanceMethod yX9_useAnew, Cond.selects RX9 yX9_useAnew yX9_useAnew, Cond.code yX9_useAnew cX9_useAnew 6 none, Cond.methodLink RX9 56 yX2_unify, Cond.methodLink RX9 65 yX2_parentFeatures, Cond.methodLink RL 141 yX10_faults, Cond.instanceMethod yX10_faults, Cond.selects RX10 yX10_faults yX10_faults, Cond.code yX10_faults cX10_faults 3 (some .int), Cond.methodLink RX10 292 yX9_countRelaxed, Cond.instanceMethod yX9_countRelaxed, Cond.selects RX9 yX9_countRelaxed yX9_countRelaxed, Cond.code yX9_countRelaxed cX9_countRelaxed 5 (some .int), Cond.methodLink RL 144 yX10_fragments, Cond.instanceMethod yX10_fragments, Cond.selects RX10 yX10_fragments yX10_fragments, Cond.code yX10_fragments cX10_fragments 2 (some .int), Cond.methodLink RL 147 yX10_best, Cond.instanceMethod yX10_best, Cond.selects RX10 yX10_best yX10_best, Cond.code yX10_best cX10_best 3 (some .int)]
def wsL_law0_r37 : List Cond := [Cond.methodLink RX10 329 yX10_chosenOf, Cond.instanceMethod yX10_chosenOf, Cond.selects RX10 yX10_chosenOf yX10_chosenOf, Cond.code yX10_chosenOf cX10_chosenOf 6 (some .int), Cond.methodLink RX10 476 yX10_canBePut, Cond.instanceMethod yX10_canBePut, Cond.selects RX10 yX10_canBePut yX10_canBePut, Cond.code yX10_canBePut cX10_canBePut 3 (some .boolean), Cond.methodLink RX10 332 yX10_mendIn, Cond.instanceMethod yX10_mendIn, Cond.selects RX10 yX10_mendIn yX10_mendIn, Cond.code yX10_mendIn cX10_mendIn 3 (some .int), Cond.methodLink RL 150 yX10_mendAll, Cond.instanceMethod yX10_mendAll, Cond.selects RX10 yX10_mendAll yX10_mendAll, Cond.code yX10_mendAll cX10_mendAll 5 (some .int), Cond.methodLink RL 153 yX10_styleFaults, Cond.instanceMethod yX10_styleFaults, Cond.selects RX10 yX10_styleFaults yX10_styleFaults, Cond.code yX10_styleFaults cX10_styleFaults 3 (some .int), Cond.methodLink RX10 357 yX8_countFaults, Cond.instanceMethod yX8_countFaults, Cond.selects RX8 yX8_countFaults yX8_countFaults, Cond.code yX8_countFaults cX8_countFaults 4 (some .int)]
def wsL_law0_r38 : List Cond := [Cond.methodLink RX8 59 yJ6_bitCount_0f7a4, Cond.static yJ6_bitCount_0f7a4, Cond.initialized RJ6, Cond.code yJ6_bitCount_0f7a4 cJ6_bitCount_0f7a4 1 (some .int), Cond.constant RJ6 265 (1431655765), Cond.constant RJ6 266 (858993459), Cond.constant RJ6 267 (252645135), Cond.methodLink RL 214 yX10_reads, Cond.instanceMethod yX10_reads, Cond.selects RX10 yX10_reads yX10_reads, Cond.code yX10_reads cX10_reads 1 (some .int), Cond.methodLink RL 218 yL_chart, Cond.static yL_chart, Cond.code yL_chart cL_chart 26 none, Cond.methodLink RL 52 yL_span, Cond.static yL_span, Cond.code yL_span cL_span 2 (some .int), Cond.methodLink RL 48 yL_lays, Cond.static yL_lays, Cond.code yL_lays cL_lays 12 none, Cond.methodLink RL 55 yL_tries, Cond.static yL_tries, Cond.code yL_tries cL_tries 14 none, Cond.methodLink RL 44 yL_use]
def wsL_law0_r39 : List Cond := [Cond.static yL_use, Cond.code yL_use cL_use 16 (some .int), Cond.constant RL 43 (10000000), Cond.methodLink RL 39 yL_digit, Cond.static yL_digit, Cond.code yL_digit cL_digit 2 (some .int), Cond.methodLink RL 222 yL_reads, Cond.static yL_reads, Cond.code yL_reads cL_reads 6 none, Cond.methodLink RL 225 yL_whole, Cond.static yL_whole, Cond.code yL_whole cL_whole 10 (some .int), Cond.methodLink RL 229 yL_faults, Cond.static yL_faults, Cond.code yL_faults cL_faults 17 (some .int), Cond.methodLink RL 232 yL_fragments, Cond.static yL_fragments, Cond.code yL_fragments cL_fragments 20 (some .int), Cond.arrayClass .long, Cond.constantLong RL 59 (1000000000), Cond.constantLong RL 61 (100000)]
def wsL_law0 : List Cond := (wsL_law0_r1 ++ (wsL_law0_r2 ++ (wsL_law0_r3 ++ (wsL_law0_r4 ++ (wsL_law0_r5 ++ (wsL_law0_r6 ++ (wsL_law0_r7 ++ (wsL_law0_r8 ++ (wsL_law0_r9 ++ (wsL_law0_r10 ++ (wsL_law0_r11 ++ (wsL_law0_r12 ++ (wsL_law0_r13 ++ (wsL_law0_r14 ++ (wsL_law0_r15 ++ (wsL_law0_r16 ++ (wsL_law0_r17 ++ (wsL_law0_r18 ++ (wsL_law0_r19 ++ (wsL_law0_r20 ++ (wsL_law0_r21 ++ (wsL_law0_r22 ++ (wsL_law0_r23 ++ (wsL_law0_r24 ++ (wsL_law0_r25 ++ (wsL_law0_r26 ++ (wsL_law0_r27 ++ (wsL_law0_r28 ++ (wsL_law0_r29 ++ (wsL_law0_r30 ++ (wsL_law0_r31 ++ (wsL_law0_r32 ++ (wsL_law0_r33 ++ (wsL_law0_r34 ++ (wsL_law0_r35 ++ (wsL_law0_r36 ++ (wsL_law0_r37 ++ (wsL_law0_r38 ++ wsL_law0_r39)))))))))))))))))))))))))))))))))))))) ++ wsX100 ++ wsX30 ++ wsX70 ++ wsX20 ++ wsX50 ++ wsX40 ++ wsX90 ++ wsX10 ++ wsX80 ++ wsX60 ++ wsX00 ++ ([] : List Cond)
def wsL_law : List Cond := wsL_law0 ++ (vx_atS RX10 95 "java/lang/IllegalArgumentException" ["java/lang/RuntimeException", "java/lang/Exception"]).filter goodWord ++ (vx_atS RX10 106 "java/lang/IllegalStateException" ["java/lang/RuntimeException", "java/lang/Exception"]).filter goodWord ++ (vx_atS RX10 181 "java/lang/IndexOutOfBoundsException" ["java/lang/RuntimeException", "java/lang/Exception"]).filter goodWord
theorem inlX0 : ∀ w ∈ wsX00, w ∈ wsL_law := fun _ h => List.mem_append_left _ (List.mem_append_left _ (List.mem_append_left _ (List.mem_append_left _ (List.mem_append_right _ h))))
theorem inlX1 : ∀ w ∈ wsX10, w ∈ wsL_law := fun _ h => List.mem_append_left _ (List.mem_append_left _ (List.mem_append_left _ (List.mem_append_left _ (List.mem_append_left _ (List.mem_append_left _ (List.mem_append_left _ (List.mem_append_right _ h)))))))
theorem inlX2 : ∀ w ∈ wsX20, w ∈ wsL_law := fun _ h => List.mem_append_left _ (List.mem_append_left _ (List.mem_append_left _ (List.mem_append_left _ (List.mem_append_left _ (List.mem_append_left _ (List.mem_append_left _ (List.mem_append_left _ (List.mem_append_left _ (List.mem_append_left _ (List.mem_append_left _ (List.mem_append_right _ h)))))))))))
theorem inlX3 : ∀ w ∈ wsX30, w ∈ wsL_law := fun _ h => List.mem_append_left _ (List.mem_append_left _ (List.mem_append_left _ (List.mem_append_left _ (List.mem_append_left _ (List.mem_append_left _ (List.mem_append_left _ (List.mem_append_left _ (List.mem_append_left _ (List.mem_append_left _ (List.mem_append_left _ (List.mem_append_left _ (List.mem_append_left _ (List.mem_append_right _ h)))))))))))))
theorem inlX4 : ∀ w ∈ wsX40, w ∈ wsL_law := fun _ h => List.mem_append_left _ (List.mem_append_left _ (List.mem_append_left _ (List.mem_append_left _ (List.mem_append_left _ (List.mem_append_left _ (List.mem_append_left _ (List.mem_append_left _ (List.mem_append_left _ (List.mem_append_right _ h)))))))))
theorem inlX5 : ∀ w ∈ wsX50, w ∈ wsL_law := fun _ h => List.mem_append_left _ (List.mem_append_left _ (List.mem_append_left _ (List.mem_append_left _ (List.mem_append_left _ (List.mem_append_left _ (List.mem_append_left _ (List.mem_append_left _ (List.mem_append_left _ (List.mem_append_left _ (List.mem_append_right _ h))))))))))
theorem inlX6 : ∀ w ∈ wsX60, w ∈ wsL_law := fun _ h => List.mem_append_left _ (List.mem_append_left _ (List.mem_append_left _ (List.mem_append_left _ (List.mem_append_left _ (List.mem_append_right _ h)))))
theorem inlX7 : ∀ w ∈ wsX70, w ∈ wsL_law := fun _ h => List.mem_append_left _ (List.mem_append_left _ (List.mem_append_left _ (List.mem_append_left _ (List.mem_append_left _ (List.mem_append_left _ (List.mem_append_left _ (List.mem_append_left _ (List.mem_append_left _ (List.mem_append_left _ (List.mem_append_left _ (List.mem_append_left _ (List.mem_append_right _ h))))))))))))
theorem inlX8 : ∀ w ∈ wsX80, w ∈ wsL_law := fun _ h => List.mem_append_left _ (List.mem_append_left _ (List.mem_append_left _ (List.mem_append_left _ (List.mem_append_left _ (List.mem_append_left _ (List.mem_append_right _ h))))))
theorem inlX9 : ∀ w ∈ wsX90, w ∈ wsL_law := fun _ h => List.mem_append_left _ (List.mem_append_left _ (List.mem_append_left _ (List.mem_append_left _ (List.mem_append_left _ (List.mem_append_left _ (List.mem_append_left _ (List.mem_append_left _ (List.mem_append_right _ h))))))))
theorem inlX10 : ∀ w ∈ wsX100, w ∈ wsL_law := fun _ h => List.mem_append_left _ (List.mem_append_left _ (List.mem_append_left _ (List.mem_append_left _ (List.mem_append_left _ (List.mem_append_left _ (List.mem_append_left _ (List.mem_append_left _ (List.mem_append_left _ (List.mem_append_left _ (List.mem_append_left _ (List.mem_append_left _ (List.mem_append_left _ (List.mem_append_left _ (List.mem_append_right _ h))))))))))))))
abbrev vwCl : List vw_C := [(RX0, TX0, 9), (RX1, TX1, 4), (RX2, TX2, 15), (RX3, TX3, 6), (RX4, TX4, 0), (RX5, TX5, 3), (RX6, TX6, 9), (RX7, TX7, 6), (RX8, TX8, 5), (RX9, TX9, 5), (RX10, TX10, 13)]
/-! ===== END printed: names ===== -/
