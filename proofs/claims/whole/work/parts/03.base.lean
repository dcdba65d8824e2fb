/-! my own layer over the kit's rows: what is known of the tables (KK), a method's fixed things (Ex), the world (Wd), contracts (CT) -/
abbrev cls : List vw_C := [(RX0, TX0, 2), (RX1, TX1, 3), (RX2, TX2, 3), (RX3, TX3, 10), (RX4, TX4, 6), (RX5, TX5, 9), (RX6, TX6, 19)]
abbrev GG : Type := va_G × (Nat → ClassId)
abbrev gty (G : GG) : List (ClassId × FieldType) := [(G.2 0, .int), (G.2 1, .byte), (G.2 2, .boolean), (G.2 3, .object RX3), (G.2 4, .object RX2)]
def nestWord : Cond → Bool
  | .fieldLinkNest _ _ _ _ _ _ => true
  | .methodLinkNest _ _ _ _ => true
  | .arrayOver (.object _) => true
  | _ => false
def okw (w : Cond) : Prop := w ∈ lw_tbl ∧ (goodWord w = true ∨ nestWord w = true)
def KK (G : GG) (s : State) : Prop := va_K G.1 cls (gty G) s ∧ ∀ w, okw w → va_Nw w s
theorem nest_warm {w : Cond} (hn : nestWord w = true) {s U : State} (hW : s.WarmedH U.vm) (h : va_Nw w s) : va_Nw w U := by
  unfold nestWord at hn
  split at hn
  · exact va_Nw.warmF hW h
  · exact va_Nw.warmM hW h
  · exact va_AO.moved hW.alike h
  · exact absurd hn (by decide)
theorem nest_use {w : Cond} (hn : nestWord w = true) {s : State} (h : va_Nw w s) {args : Array Value} : w.before args s = true := by
  unfold nestWord at hn
  split at hn
  · exact va_Nw.use rfl h
  · exact va_Nw.use rfl h
  · exact va_AO.use h
  · exact absurd hn (by decide)
theorem KK.warm {G : GG} {s U : State} (hW : s.WarmedH U.vm) (h : KK G s) : KK G U := by
  refine ⟨va_K.moved hW.alike h.1, fun w hw => ?_⟩
  rcases hw.2 with hg | hn
  · exact word_at hW (good_of_word hg) (h.2 w hw)
  · exact nest_warm hn hW (h.2 w hw)
theorem KK.w {G : GG} {s : State} (h : KK G s) {w : Cond} (hw : okw w) {args : Array Value} : w.before args s = true := by
  rcases hw.2 with hg | hn
  · exact word_at (State.WarmedH.refl s) (good_of_word hg) (h.2 w hw)
  · exact nest_use hn (h.2 w hw)
theorem KK.call {G : GG} {U : State} {g : JFrame} {mk : MethodId} {a : Array Value} (h : KK G U) : KK G (U.calling g mk a) := KK.warm (U := U.calling g mk a) (State.WarmedH.refl U) h
def va_B (ws : va_W) : Nat → Prop := fun q => ∃ (k : Nat) (e : va_E), ws[k]? = some (q, e)
def Wd (G : GG) (A : Nat → Prop) (s : State) (H : Heap) (locs : List Loc) (ws : va_W) : Prop := va_P G.1 cls ws H ∧ va_D A ws ∧ va_S A s.heap H locs
def Ex (G : GG) (p : Program) (s : State) (m : MethodId) (meth : Method) (c : Code) (cc : ByteArray) (nL : Nat) (ret : Option FieldType) (own : String) : Prop :=
  p.tables.exec = Jvm.exec ∧ c.code = cc ∧ c.maxLocals = nL ∧ s.vm.findClass own = some m.cls ∧ meth.sig.returnType = ret ∧ meth.locks = false ∧ KK G s
abbrev rmx (fr lo : Nat) : Room := { frames := fr, cells := 0, slots := 0, locals := lo }
def QcT (G : GG) (w : va_W) (o : Option Value) (w' : va_W) : Array Value → State → Outcome → State → Prop := fun _ st oc t => (oc = .returned o ∧ va_P G.1 cls w' t.heap) ∧ va_F (va_B w) st t
def PcT (G : GG) (av : List Value) (w : va_W) : Array Value → State → Prop := va_Pc av (fun U => KK G U ∧ va_P G.1 cls w U.heap ∧ va_D (fun _ => True) w)
/-- a contract of a method that makes nothing: with arguments av and the cells w it returns o, the cells are w', nothing else has changed -/
def CT (l : Launch) (G : GG) (y : MethodName) (cc : ByteArray) (maxL : Nat) (ret : Option FieldType) (fr lo : Nat) (av : List Value) (w : va_W) (o : Option Value) (w' : va_W) : Prop :=
  Met l y [.code y cc maxL ret] (rmx fr lo) (PcT G av w) (QcT G w o w') 0 0 (va_B w)
/-- what a method's end gives the goal -/
def Rt (G : GG) (s : State) (args : Array Value) (below : List Frame) (w : va_W) (o : Option Value) (w' : va_W) (Q : State → Prop) : Prop := ∀ t, MQ below (QcT G w o w') args s 0 0 (va_B w) t → Q t
theorem W.mono {p : Program} {l : Launch} {e : Env} {R : Room} {s : State} {m : MethodId} {args : Array Value} {below : List Frame} {meth : Method} {c : Code} {H : Heap} {locs : List Loc} {cells slots : Nat} {Q Q' : State → Prop} {g : JFrame} (h : ∀ t, Q t → Q' t) (k : W p l e R s m args below meth c H locs cells slots Q g) : W p l e R s m args below meth c H locs cells slots Q' g := fun T hT X => by
  obtain ⟨t, a, b⟩ := k T hT X
  exact ⟨t, a, h t b⟩
theorem CT.mk {l : Launch} {G : GG} {y : MethodName} {cc : ByteArray} {maxL : Nat} {ret : Option FieldType} {fr lo : Nat} {av : List Value} {w : va_W} {o : Option Value} {w' : va_W} {own : String} {la : List (Nat × Value)} (hy : plainName y.cls = true) (ho : y.cls = own) (hn : (lg_sl av).length ≤ maxL) (hla : lv_args 0 av = la)
    (body : ∀ (p : Program) (e : Env) (s : State) (m : MethodId) (args : Array Value) (below : List Frame) (meth : Method) (c : Code) (A : Nat → Prop) (Q : State → Prop), Ex G p s m meth c cc maxL ret own → (∀ q, A q → va_B w q) → Wd G A s s.heap [] w → Rt G s args below w o w' Q → ∀ ls : Array Slot, lv_has ls maxL la → W p l e (rmx fr lo) s m args below meth c s.heap [] 0 0 Q (F0 m 0 ls [])) : CT l G y cc maxL ret fr lo av w o w' := by
  refine Met.ofW (cc := cc) (maxL := maxL) (ret := ret) hy rfl ?_
  intro p e s m args below meth c s₁ B hml hv
  obtain ⟨rfl, hK, hP, hD⟩ := hv
  have hl := lv_entry av (n := maxL) hn
  rw [lg_entry_eq]
  subst hla
  exact body p e s m _ below meth c (va_B w) _ ⟨B.exec, B.bytes, hml, ho ▸ findClass_of_methodNamed B.named, B.returns, B.notSynchronized, hK⟩ (fun _ h => h) ⟨hP, ⟨hD.1, fun k q hk => ⟨k, q.2, hk⟩⟩, va_S.rf⟩ (fun _ h => h) _ hl
section XR
variable {p : Program} {l : Launch} {e : Env} {R : Room} {s : State} {m : MethodId} {args : Array Value} {below : List Frame} {meth : Method} {c : Code} {H : Heap} {locs : List Loc} {cells slots : Nat} {Q : State → Prop}
variable {G : GG} {A : Nat → Prop} {ws ws' w w' : va_W} {cc : ByteArray} {nL : Nat} {ret : Option FieldType} {own : String} {pc : Nat} {ls : Array Slot} {rest : List Value} {a : Nat} {v r : Int32} {v8 r8 : Int64}
/-- the end of a method -/
theorem Wd.F (hA : ∀ q, A q → va_B w q) (hw : Wd G A s H locs ws) : va_S (va_B w) s.heap H locs := ⟨hw.2.2.1, fun q h1 h2 => hw.2.2.2.1 q h1 (fun h => h2 (hA q h)), fun l hl => hA _ (hw.2.2.2.2 l hl)⟩
theorem x_iret (E : Ex G p s m meth c cc nL (some .int) own) (hA : ∀ q, A q → va_B w q) (rt : Rt G s args below w (some (.int r)) w' Q) (hw : Wd G A s H locs ws) (hdg : decode cc pc = .ok (.ireturn, 1)) (hv : v = r) (hww : ws = w') : W p l e R s m args below meth c H locs 0 0 Q (F0 m pc ls [.int v]) := by
  subst hv; subst hww
  exact W.mono rt (W.iret E.1 E.2.1 E.2.2.2.2.1 (fun t ht hW => ⟨⟨rfl, by rw [ht]; exact hw.1⟩, (Wd.F hA hw).F ht⟩) (Wd.F hA hw).2.2 hdg E.2.2.2.2.2.1)
theorem x_zret {ty : FieldType} (E : Ex G p s m meth c cc nL (some ty) own) (hA : ∀ q, A q → va_B w q) (rt : Rt G s args below w (some (.int r)) w' Q) (hw : Wd G A s H locs ws) (hn : narrow ty (.int v) = .int v) (hdg : decode cc pc = .ok (.ireturn, 1)) (hv : v = r) (hww : ws = w') : W p l e R s m args below meth c H locs 0 0 Q (F0 m pc ls [.int v]) := by
  subst hv; subst hww
  exact W.mono rt (W.zret E.1 E.2.1 E.2.2.2.2.1 hn (fun t ht hW => ⟨⟨rfl, by rw [ht]; exact hw.1⟩, (Wd.F hA hw).F ht⟩) (Wd.F hA hw).2.2 hdg E.2.2.2.2.2.1)
theorem x_lret (E : Ex G p s m meth c cc nL (some .long) own) (hA : ∀ q, A q → va_B w q) (rt : Rt G s args below w (some (.long r8)) w' Q) (hw : Wd G A s H locs ws) (hdg : decode cc pc = .ok (.lreturn, 1)) (hv : v8 = r8) (hww : ws = w') : W p l e R s m args below meth c H locs 0 0 Q (F0 m pc ls [.long v8]) := by
  subst hv; subst hww
  exact W.mono rt (W.lret E.1 E.2.1 E.2.2.2.2.1 (fun t ht hW => ⟨⟨rfl, by rw [ht]; exact hw.1⟩, (Wd.F hA hw).F ht⟩) (Wd.F hA hw).2.2 hdg E.2.2.2.2.2.1)
theorem x_vret (E : Ex G p s m meth c cc nL none own) (hA : ∀ q, A q → va_B w q) (rt : Rt G s args below w none w' Q) (hw : Wd G A s H locs ws) (hdg : decode cc pc = .ok (.return_, 1)) (hww : ws = w') : W p l e R s m args below meth c H locs 0 0 Q (F0 m pc ls []) := by
  subst hww
  exact W.mono rt (W.vret E.1 E.2.1 E.2.2.2.2.1 (fun t ht hW => ⟨⟨rfl, by rw [ht]; exact hw.1⟩, (Wd.F hA hw).F ht⟩) (Wd.F hA hw).2.2 hdg E.2.2.2.2.2.1)
/-- a field's words: of the class own's pool entry 'index', the field k of the class ci -/
def FW (own : String) (index ci k : Nat) : Prop := ∃ (C : String) (T : u_T) (N : Nat) (ty0 : Nat → FieldType), cls[ci]? = some (C, T, N) ∧ k < N ∧ (∀ x ∈ u_ws C T N, okw x) ∧ (∀ j, j < N → parseFieldDescriptor (T j).2.2.1 = some (ty0 j)) ∧ (∀ a, a < N → ∀ b, b < N → a ≠ b → (T a).2.1 ≠ (T b).2.1) ∧ (okw (.fieldLink own index (T k).1 (T k).2.1 (T k).2.2.1) ∨ ∃ host, okw (.fieldLinkNest own index (T k).1 (T k).2.1 (T k).2.2.1 host))
theorem x_get (E : Ex G p s m meth c cc nL ret own) (hw : Wd G A s H locs ws) {index ci k : Nat} (f : FW own index ci k) (q0 : Nat) {fs : List Value} (he : ws[q0]? = some (a, .inr (ci, fs))) {v : Value} (hv : fs[k]? = some v) (hdg : decode cc pc = .ok (.getfield index, 3))
    (kk : W p l e R s m args below meth c H locs cells slots Q (F0 m (pc + 3) ls (v :: rest))) : W p l e R s m args below meth c H locs cells slots Q (F0 m pc ls (.ref a :: rest)) := by
  obtain ⟨C, T, N, ty0, hc, hk, hl, hty, hnm, ho⟩ := f
  obtain ⟨hx, hb, hml, hown, hr, hlk, hK⟩ := E
  rcases ho with h | ⟨host, h⟩
  · exact va_get (Ts := u_ws C T N) hx hb (fun w' h' => hK.w (hl w' h')) (fun _ h => h) hown hK.1 hw.1 q0 he hc k hk (hK.w h) (fun _ h => h) hv hdg kk
  · exact va_getN (Ts := u_ws C T N) hx hb (fun w' h' => hK.w (hl w' h')) (fun _ h => h) hown hK.1 hw.1 q0 he hc k hk (hK.w h) (fun _ h => h) hv hdg kk
theorem x_put (E : Ex G p s m meth c cc nL ret own) (hw : Wd G A s H locs ws) {index ci k : Nat} (f : FW own index ci k) (q0 : Nat) {fs : List Value} (he : ws[q0]? = some (a, .inr (ci, fs))) {v : Value} {ty : FieldType} {C : String} {T : u_T} {N : Nat} (hc : cls[ci]? = some (C, T, N)) (hfin : (T k).2.2.2 = false) (hd : parseFieldDescriptor (T k).2.2.1 = some ty) (hn : narrow ty v = v) (hfit : fits ty v = true) (hlen : k < fs.length) (hdg : decode cc pc = .ok (.putfield index, 3)) (hws : ws.set q0 (a, .inr (ci, fs.set k v)) = ws')
    (kk : ∀ (H1 : Heap) (locs1 : List Loc), Wd G A s H1 locs1 ws' → W p l e R s m args below meth c H1 locs1 cells slots Q (F0 m (pc + 3) ls rest)) : W p l e R s m args below meth c H locs cells slots Q (F0 m pc ls (v :: .ref a :: rest)) := by
  obtain ⟨C2, T2, N2, ty0, hc2, hk, hl, hty, hnm, ho⟩ := f
  obtain ⟨hx, hb, hml, hown, hr, hlk, hK⟩ := E
  cases hc.symm.trans hc2
  subst hws
  rcases ho with h | ⟨host, h⟩
  · exact va_put (Ts := u_ws C T N) hx hb (fun w' h' => hK.w (hl w' h')) (fun _ h => h) ty0 hty hnm hown hK.1 hw.1 hw.2.1 hw.2.2 q0 he hc k hk (hK.w h) (fun _ h => h) hfin hd hn hfit hlen hdg (fun H1 locs1 h1 h2 h3 => kk H1 locs1 ⟨h1, h2, h3⟩)
  · exact va_putN (Ts := u_ws C T N) hx hb (fun w' h' => hK.w (hl w' h')) (fun _ h => h) ty0 hty hnm hown hK.1 hw.1 hw.2.1 hw.2.2 q0 he hc k hk (hK.w h) (fun _ h => h) hfin hd hn hfit hlen hdg (fun H1 locs1 h1 h2 h3 => kk H1 locs1 ⟨h1, h2, h3⟩)
/-- int arrays, at a place that is a natural number -/
theorem x_iald (E : Ex G p s m meth c cc nL ret own) (hw : Wd G A s H locs ws) (q0 : Nat) {n : Nat} {f : Nat → Int32} (ha : ws[q0]? = some (a, .inl (G.2 0, n, .inl f))) {i : Int32} (k : Nat) (hi : i = nI k) (hk : k < n) (hn : n < 2 ^ 31) (hdg : decode cc pc = .ok (.iaload, 1))
    (kk : W p l e R s m args below meth c H locs cells slots Q (F0 m (pc + 1) ls (.int (f k) :: rest))) : W p l e R s m args below meth c H locs cells slots Q (F0 m pc ls (.int i :: .ref a :: rest)) := by
  subst hi
  refine va_iald E.1 E.2.1 E.2.2.2.2.2.2.1 hw.1 q0 0 ha rfl (vp_in_nI hk hn) hdg ?_
  rw [nI_clamp (by omega)]
  exact kk
theorem x_bald (E : Ex G p s m meth c cc nL ret own) (hw : Wd G A s H locs ws) (q0 : Nat) {n : Nat} {f : Nat → Int32} (ha : ws[q0]? = some (a, .inl (G.2 1, n, .inl f))) {i : Int32} (k : Nat) (hi : i = nI k) (hk : k < n) (hn : n < 2 ^ 31) (hdg : decode cc pc = .ok (.baload, 1))
    (kk : W p l e R s m args below meth c H locs cells slots Q (F0 m (pc + 1) ls (.int (f k) :: rest))) : W p l e R s m args below meth c H locs cells slots Q (F0 m pc ls (.int i :: .ref a :: rest)) := by
  subst hi
  refine va_bald E.1 E.2.1 E.2.2.2.2.2.2.1 hw.1 q0 1 ha rfl (vp_in_nI hk hn) hdg ?_
  rw [nI_clamp (by omega)]
  exact kk
theorem x_zald (E : Ex G p s m meth c cc nL ret own) (hw : Wd G A s H locs ws) (q0 : Nat) {n : Nat} {f : Nat → Int32} (ha : ws[q0]? = some (a, .inl (G.2 2, n, .inl f))) {i : Int32} (k : Nat) (hi : i = nI k) (hk : k < n) (hn : n < 2 ^ 31) (hdg : decode cc pc = .ok (.baload, 1))
    (kk : W p l e R s m args below meth c H locs cells slots Q (F0 m (pc + 1) ls (.int (f k) :: rest))) : W p l e R s m args below meth c H locs cells slots Q (F0 m pc ls (.int i :: .ref a :: rest)) := by
  subst hi
  refine va_zald E.1 E.2.1 E.2.2.2.2.2.2.1 hw.1 q0 2 ha rfl (vp_in_nI hk hn) hdg ?_
  rw [nI_clamp (by omega)]
  exact kk
theorem x_iast (E : Ex G p s m meth c cc nL ret own) (hw : Wd G A s H locs ws) (q0 : Nat) {n : Nat} {f : Nat → Int32} (ha : ws[q0]? = some (a, .inl (G.2 0, n, .inl f))) {i x : Int32} (k : Nat) (hi : i = nI k) (hk : k < n) (hn : n < 2 ^ 31) (hdg : decode cc pc = .ok (.iastore, 1)) (hws : ws.set q0 (a, .inl (G.2 0, n, .inl (upd f k x))) = ws')
    (kk : ∀ (H1 : Heap) (locs1 : List Loc), Wd G A s H1 locs1 ws' → W p l e R s m args below meth c H1 locs1 cells slots Q (F0 m (pc + 1) ls rest)) : W p l e R s m args below meth c H locs cells slots Q (F0 m pc ls (.int x :: .int i :: .ref a :: rest)) := by
  subst hi
  refine va_iast E.1 E.2.1 E.2.2.2.2.2.2.1 hw.1 hw.2.1 hw.2.2 q0 0 ha rfl (vp_in_nI hk hn) hdg (fun H1 locs1 h1 h2 h3 => ?_)
  rw [nI_clamp (by omega)] at h1 h2
  subst hws
  exact kk H1 locs1 ⟨h1, h2, h3⟩
theorem x_bast (E : Ex G p s m meth c cc nL ret own) (hw : Wd G A s H locs ws) (q0 : Nat) {n : Nat} {f : Nat → Int32} (ha : ws[q0]? = some (a, .inl (G.2 1, n, .inl f))) {i x : Int32} (k : Nat) (hi : i = nI k) (hk : k < n) (hn : n < 2 ^ 31) (hdg : decode cc pc = .ok (.bastore, 1)) (hws : ws.set q0 (a, .inl (G.2 1, n, .inl (upd f k x.toInt8.toInt32))) = ws')
    (kk : ∀ (H1 : Heap) (locs1 : List Loc), Wd G A s H1 locs1 ws' → W p l e R s m args below meth c H1 locs1 cells slots Q (F0 m (pc + 1) ls rest)) : W p l e R s m args below meth c H locs cells slots Q (F0 m pc ls (.int x :: .int i :: .ref a :: rest)) := by
  subst hi
  refine va_bast E.1 E.2.1 E.2.2.2.2.2.2.1 hw.1 hw.2.1 hw.2.2 q0 1 ha rfl (vp_in_nI hk hn) hdg (fun H1 locs1 h1 h2 h3 => ?_)
  rw [nI_clamp (by omega), vp_nar_byte] at h1 h2
  subst hws
  exact kk H1 locs1 ⟨h1, h2, h3⟩
theorem x_zast (E : Ex G p s m meth c cc nL ret own) (hw : Wd G A s H locs ws) (q0 : Nat) {n : Nat} {f : Nat → Int32} (ha : ws[q0]? = some (a, .inl (G.2 2, n, .inl f))) {i x : Int32} (k : Nat) (hi : i = nI k) (hk : k < n) (hn : n < 2 ^ 31) (hdg : decode cc pc = .ok (.bastore, 1)) (hws : ws.set q0 (a, .inl (G.2 2, n, .inl (upd f k (vp_nar .boolean x)))) = ws')
    (kk : ∀ (H1 : Heap) (locs1 : List Loc), Wd G A s H1 locs1 ws' → W p l e R s m args below meth c H1 locs1 cells slots Q (F0 m (pc + 1) ls rest)) : W p l e R s m args below meth c H locs cells slots Q (F0 m pc ls (.int x :: .int i :: .ref a :: rest)) := by
  subst hi
  refine va_zast E.1 E.2.1 E.2.2.2.2.2.2.1 hw.1 hw.2.1 hw.2.2 q0 2 ha rfl (vp_in_nI hk hn) hdg (fun H1 locs1 h1 h2 h3 => ?_)
  rw [nI_clamp (by omega)] at h1 h2
  subst hws
  exact kk H1 locs1 ⟨h1, h2, h3⟩
/-- the same cells where an array's contents agree below its length -/
theorem arr_eq {cI : ClassId} {n : Nat} {f g : Nat → Int32} (h : ∀ j, j < n → f j = g j) : vp_cell cI (n, .inl f) = vp_cell cI (n, .inl g) := by
  show arrV cI n (fun j => .int (f j)) = arrV cI n (fun j => .int (g j))
  unfold arrV
  congr 2
  funext j
  show Value.int (f j.val) = Value.int (g j.val)
  rw [h j.val j.isLt]
theorem Wd.arr (hw : Wd G A s H locs ws) (q0 : Nat) {cA : ClassId} {n : Nat} {f g : Nat → Int32} (ha : ws[q0]? = some (a, .inl (cA, n, .inl f))) (h : ∀ j, j < n → f j = g j) (hws : ws.set q0 (a, .inl (cA, n, .inl g)) = ws') : Wd G A s H locs ws' := by
  subst hws
  refine ⟨hw.1.set hw.2.1 ha ?_ (fun _ _ => rfl), hw.2.1.set ha, hw.2.2⟩
  show H[a]? = some (vp_cell cA (n, .inl g))
  rw [← arr_eq h]
  exact hw.1 q0 _ ha
/-- the library's words: a static method of another class -/
def LW (own : String) (index : Nat) (y : MethodName) : Prop := okw (.methodLink own index y) ∧ okw (.static y) ∧ okw (.initialized y.cls)
theorem x_mmax (E : Ex G p s m meth c cc nL ret own) {index : Nat} (hl : LW own index Lib.Math.max.name) (hcode : okw (.code Lib.Math.max.name Lib.Math.max.code 2 (some .int))) (hls : ls.size = nL) (hframes : 1 ≤ R.frames) (hlocals : (rest.map fun v => v.category).sum + 13 ≤ R.locals) (hc : cells ≤ R.cells) (hs : slots ≤ R.slots) {x y : Int32} (hdg : decode cc pc = .ok (.invokestatic index, 3))
    (kk : W p l e R s m args below meth c H locs cells slots Q (F0 m (pc + 3) ls (.int (if x < y then y else x) :: rest))) : W p l e R s m args below meth c H locs cells slots Q (F0 m pc ls (.int y :: .int x :: rest)) :=
  va_mmax E.1 E.2.1 (by rw [hls]; exact E.2.2.1) E.2.2.2.1 (E.2.2.2.2.2.2.w hl.1) (E.2.2.2.2.2.2.w hl.2.1) (E.2.2.2.2.2.2.w hl.2.2) (E.2.2.2.2.2.2.w hcode) hframes hlocals hc hs hdg kk
theorem x_mmin (E : Ex G p s m meth c cc nL ret own) {index : Nat} (hl : LW own index Lib.Math.min.name) (hcode : okw (.code Lib.Math.min.name Lib.Math.min.code 2 (some .int))) (hls : ls.size = nL) (hframes : 1 ≤ R.frames) (hlocals : (rest.map fun v => v.category).sum + 13 ≤ R.locals) (hc : cells ≤ R.cells) (hs : slots ≤ R.slots) {x y v : Int32} (hdg : decode cc pc = .ok (.invokestatic index, 3)) (hv : (if y < x then y else x) = v)
    (kk : W p l e R s m args below meth c H locs cells slots Q (F0 m (pc + 3) ls (.int v :: rest))) : W p l e R s m args below meth c H locs cells slots Q (F0 m pc ls (.int y :: .int x :: rest)) := by
  refine va_mmin E.1 E.2.1 (by rw [hls]; exact E.2.2.1) E.2.2.2.1 (E.2.2.2.2.2.2.w hl.1) (E.2.2.2.2.2.2.w hl.2.1) (E.2.2.2.2.2.2.w hl.2.2) (E.2.2.2.2.2.2.w hcode) hframes hlocals hc hs hdg ?_
  subst hv
  exact kk
theorem x_copyi (E : Ex G p s m meth c cc nL ret own) (hw : Wd G A s H locs ws) {index : Nat} (hl : LW own index arraycopyName) (hnat : okw (.native arraycopyName)) (hls : ls.size = nL) (q0 q1 : Nat) {a0 n : Nat} {f g : Nat → Int32} (ha0 : ws[q0]? = some (a0, .inl (G.2 0, n, .inl f))) (ha1 : ws[q1]? = some (a, .inl (G.2 0, n, .inl g))) {sp dp x : Int32} (hsp : sp = 0) (hdp : dp = 0) (hx : x = nI n) (hn : n < 2 ^ 31)
    (hframes : 1 ≤ R.frames) (hlocals : (rest.map fun v => v.category).sum + (nativeFrameWords "java/lang/System" "arraycopy" 5 + 11) ≤ R.locals) (hdg : decode cc pc = .ok (.invokestatic index, 3)) (hws : ws.set q1 (a, .inl (G.2 0, n, .inl f)) = ws')
    (kk : ∀ (H1 : Heap) (locs1 : List Loc), Wd G A s H1 locs1 ws' → W p l e R s m args below meth c H1 locs1 cells slots Q (F0 m (pc + 3) ls rest)) : W p l e R s m args below meth c H locs cells slots Q (F0 m pc ls (.int x :: .int dp :: .ref a :: .int sp :: .ref a0 :: rest)) := by
  subst hsp; subst hdp; subst hx
  have e0 : (0 : Int32).toNatClampNeg = 0 := by decide
  have en : (nI n).toNatClampNeg = n := nI_clamp hn
  refine va_copyi (ty := .int) E.1 E.2.1 (by rw [hls]; exact E.2.2.1) E.2.2.2.1 (E.2.2.2.2.2.2.w hl.1) (E.2.2.2.2.2.2.w hnat) (E.2.2.2.2.2.2.w hl.2.1) (E.2.2.2.2.2.2.w hl.2.2) E.2.2.2.2.2.2.1 hw.1 hw.2.1 hw.2.2 q0 q1 0 0 ha0 ha1 rfl rfl rfl (by decide) (by decide) (nI_pos hn) (by rw [e0, en]; omega) (by rw [e0, en]; omega) (fun _ _ => rfl) hframes hlocals hdg (fun H1 locs1 h1 h2 h3 => ?_)
  rw [e0, en] at h1 h2
  refine kk H1 locs1 (Wd.arr (G := G) (ws := ws.set q1 (a, .inl (G.2 0, n, .inl (va_cpy f g 0 0 n)))) (a := a) ⟨h1, h2, h3⟩ q1 (g := f) (List.getElem?_set_self (List.getElem?_eq_some_iff.mp ha1).1) (fun j hj => ?_) ?_)
  · rw [pk_cpy_in (Nat.zero_le j) (by omega)]
    congr 1
    omega
  · rw [List.set_set]
    exact hws
theorem x_len (E : Ex G p s m meth c cc nL ret own) (hw : Wd G A s H locs ws) (q0 t0 : Nat) {cA : ClassId} {x : vp_A} (ha : ws[q0]? = some (a, .inl (cA, x))) {ty : FieldType} (ht : (gty G)[t0]? = some (cA, ty)) {v : Int32} (hv : Int32.ofNat x.1 = v) (hdg : decode cc pc = .ok (.arraylength, 1))
    (kk : W p l e R s m args below meth c H locs cells slots Q (F0 m (pc + 1) ls (.int v :: rest))) : W p l e R s m args below meth c H locs cells slots Q (F0 m pc ls (.ref a :: rest)) :=
  va_alen E.1 E.2.1 E.2.2.2.2.2.2.1 hw.1 q0 t0 ha ht hv hdg kk
theorem x_aldq (E : Ex G p s m meth c cc nL ret own) (hw : Wd G A s H locs ws) (q0 t0 : Nat) {cA : ClassId} {C : String} {n : Nat} {f : Nat → Option Nat} (ha : ws[q0]? = some (a, .inl (cA, n, .inr (.inr (.inr (.inr f)))))) (ht : (gty G)[t0]? = some (cA, .object C)) {i : Int32} (k : Nat) (hi : i = nI k) (hk : k < n) (hn : n < 2 ^ 31) {b : Nat} (hf : f k = some b) (hdg : decode cc pc = .ok (.aaload, 1))
    (kk : W p l e R s m args below meth c H locs cells slots Q (F0 m (pc + 1) ls (.ref b :: rest))) : W p l e R s m args below meth c H locs cells slots Q (F0 m pc ls (.int i :: .ref a :: rest)) := by
  subst hi
  refine va_aldq E.1 E.2.1 E.2.2.2.2.2.2.1 hw.1 q0 t0 ha ht (vp_in_nI hk hn) hdg ?_
  rw [nI_clamp (by omega), hf]
  exact kk
end XR
/-! calls -/
def setAll : va_W → List Nat → va_W → va_W
  | ws, i :: is, q :: qs => setAll (ws.set i q) is qs
  | ws, _, _ => ws
theorem setAll_out : ∀ (is : List Nat) (ws qs : va_W) (k : Nat), k ∉ is → (setAll ws is qs)[k]? = ws[k]?
  | [], ws, qs, k, _ => by cases qs <;> rfl
  | i :: is, ws, [], k, _ => rfl
  | i :: is, ws, q :: qs, k, h => by
    have h1 : k ≠ i := fun e => h (by rw [e]; exact List.mem_cons_self)
    have h2 : k ∉ is := fun e => h (List.mem_cons_of_mem _ e)
    show (setAll (ws.set i q) is qs)[k]? = _
    rw [setAll_out is _ qs k h2, List.getElem?_set_ne (Ne.symm h1)]
theorem setAll_in : ∀ (is : List Nat) (ws qs : va_W) (k : Nat), va_nd is = true → is.length = qs.length → (∀ i ∈ is, i < ws.length) → k ∈ is → ∃ (j : Nat) (q : Nat × va_E), is[j]? = some k ∧ qs[j]? = some q ∧ (setAll ws is qs)[k]? = some q
  | [], _, _, _, _, _, _, h => absurd h List.not_mem_nil
  | i :: is, ws, [], k, _, hl, _, _ => by simp at hl
  | i :: is, ws, q :: qs, k, hn, hl, hb, h => by
    simp only [va_nd, Bool.and_eq_true, decide_eq_true_eq] at hn
    by_cases hk : k ∈ is
    · obtain ⟨j, q', h1, h2, h3⟩ := setAll_in is (ws.set i q) qs k hn.2 (by simpa using hl) (fun i' hi' => by rw [List.length_set]; exact hb i' (List.mem_cons_of_mem _ hi')) hk
      exact ⟨j + 1, q', by simpa using h1, by simpa using h2, h3⟩
    · have hki : k = i := by
        rcases List.mem_cons.mp h with e | e
        · exact e
        · exact absurd e hk
      subst hki
      refine ⟨0, q, rfl, rfl, ?_⟩
      show (setAll (ws.set k q) is qs)[k]? = _
      rw [setAll_out is _ qs k hk, List.getElem?_set_self (hb k List.mem_cons_self)]
theorem setAll_len : ∀ (is : List Nat) (ws qs : va_W), (setAll ws is qs).length = ws.length
  | [], ws, qs => by cases qs <;> rfl
  | i :: is, ws, [] => rfl
  | i :: is, ws, q :: qs => by
    show (setAll (ws.set i q) is qs).length = _
    rw [setAll_len is _ qs, List.length_set]
theorem map_at {ws w : va_W} {is : List Nat} (hs : is.map (fun i => ws[i]?) = w.map some) {k : Nat} {q : Nat × va_E} (hq : w[k]? = some q) : ∃ i, is[k]? = some i ∧ ws[i]? = some q := by
  have h1 : (is.map (fun i => ws[i]?))[k]? = some (some q) := by rw [hs, List.getElem?_map, hq]; rfl
  rw [List.getElem?_map] at h1
  cases hi : is[k]? with
  | none => rw [hi] at h1; cases h1
  | some i => rw [hi] at h1; exact ⟨i, rfl, Option.some.inj h1⟩
theorem map_at' {ws w : va_W} {is : List Nat} (hs : is.map (fun i => ws[i]?) = w.map some) {k i : Nat} (hi : is[k]? = some i) : ∃ q, w[k]? = some q ∧ ws[i]? = some q := by
  have h1 : (w.map some)[k]? = some (ws[i]?) := by rw [← hs, List.getElem?_map, hi]; rfl
  rw [List.getElem?_map] at h1
  cases hq : w[k]? with
  | none => rw [hq] at h1; cases h1
  | some q => rw [hq] at h1; exact ⟨q, rfl, (Option.some.inj h1).symm⟩
theorem Wd.back {G : GG} {A : Nat → Prop} {s : State} {H H1 : Heap} {locs locs1 : List Loc} {ws w w' : va_W} (hw : Wd G A s H locs ws) (is : List Nat) (hC : is.map (fun i => ws[i]?) = w.map some) (hn : va_nd is = true) (ha : w'.map (·.1) = w.map (·.1)) (hk : ∀ q : Nat, q < H.size → ¬ va_B w q → H1[q]? = H[q]?) (hP1 : va_P G.1 cls w' H1) (hS : va_S A s.heap H1 locs1) : Wd G A s H1 locs1 (setAll ws is w') := by
  have hlen : is.length = w'.length := by
    have h1 := congrArg List.length hC
    have h2 := congrArg List.length ha
    simp only [List.length_map] at h1 h2
    omega
  have hb : ∀ i ∈ is, i < ws.length := fun i hi => by
    obtain ⟨j, hj⟩ := List.getElem?_of_mem hi
    obtain ⟨q, -, h2⟩ := map_at' hC hj
    exact (List.getElem?_eq_some_iff.mp h2).1
  have hadr : ∀ (k : Nat) (q q' : Nat × va_E), w[k]? = some q → w'[k]? = some q' → q'.1 = q.1 := fun k q q' h1 h2 => by
    have h3 : (w'.map (·.1))[k]? = (w.map (·.1))[k]? := by rw [ha]
    rw [List.getElem?_map, List.getElem?_map, h1, h2] at h3
    exact Option.some.inj h3
  have key : ∀ (k : Nat) (q : Nat × va_E), (setAll ws is w')[k]? = some q → ∃ q0, ws[k]? = some q0 ∧ q0.1 = q.1 ∧ va_at G.1 cls q H1 := by
    intro k q hq
    by_cases hki : k ∈ is
    · obtain ⟨j, q', h1, h2, h3⟩ := setAll_in is ws w' k hn hlen hb hki
      rw [h3] at hq
      cases hq
      obtain ⟨q0, h4, h5⟩ := map_at' hC h1
      exact ⟨q0, h5, (hadr j q0 q h4 h2).symm, hP1 j q h2⟩
    · rw [setAll_out is ws w' k hki] at hq
      refine ⟨q, hq, rfl, (hw.1 k q hq).kept (hk q.1 (hw.1 k q hq).lt (fun h => ?_))⟩
      obtain ⟨j, e, hj⟩ := h
      obtain ⟨i, h1, h2⟩ := map_at hC hj
      have := hw.2.1.1 k i q (q.1, e) hq h2 rfl
      exact hki (by rw [this]; exact List.mem_of_getElem? h1)
  refine ⟨fun k q hq => ?_, ⟨fun i j p q hi hj hpq => ?_, fun k q hq => ?_⟩, hS⟩
  · obtain ⟨q0, -, -, h⟩ := key k q hq
    exact h
  · obtain ⟨p0, h1, h2, -⟩ := key i p hi
    obtain ⟨q0, h3, h4, -⟩ := key j q hj
    exact hw.2.1.1 i j p0 q0 h1 h3 (h2.trans (hpq.trans h4.symm))
  · obtain ⟨q0, h1, h2, -⟩ := key k q hq
    rw [← h2]
    exact hw.2.1.2 k q0 h1
section XC
variable {p : Program} {l : Launch} {e : Env} {R : Room} {s : State} {m : MethodId} {args : Array Value} {below : List Frame} {meth : Method} {c : Code} {H : Heap} {locs : List Loc} {cells slots : Nat} {Q : State → Prop}
variable {G : GG} {A : Nat → Prop} {ws ws' w w' : va_W} {cc bytes : ByteArray} {nL maxL : Nat} {ret ret' : Option FieldType} {own : String} {pc index fr lo : Nat} {ls : Array Slot} {rest st0 st1 As : List Value} {b : Nat} {y : MethodName} {o : Option Value}
theorem x_goes {a : Array Value} {is : List Nat} (hr : va_Run p l e R s m args below meth c H locs cells slots 0 0 (F0 m pc ls st0) rest (QcT G w o w' a) (va_B w)) (hw : Wd G A s H locs ws) (hC : is.map (fun i => ws[i]?) = w.map some) (hn : va_nd is = true) (ha : w'.map (·.1) = w.map (·.1)) (hws : setAll ws is w' = ws') (hst : o.toList ++ rest = st1)
    (kk : ∀ (H1 : Heap) (locs1 : List Loc), Wd G A s H1 locs1 ws' → W p l e R s m args below meth c H1 locs1 cells slots Q (F0 m (pc + 3) ls st1)) : W p l e R s m args below meth c H locs cells slots Q (F0 m pc ls st0) := by
  intro T hT X
  obtain ⟨v, st₀, t, T', L, h0, X', hL, e1, e2, ⟨⟨hv, hp⟩, hz, hk⟩, st⟩ := hr T hT X
  cases hv
  rw [h0] at hz hk
  subst hws
  subst hst
  have hBA : ∀ q, va_B w q → A q := fun q ⟨k, e', h⟩ => by
    obtain ⟨i, -, h2⟩ := map_at hC h
    exact hw.2.1.2 i _ h2
  obtain ⟨t2, a1, b1⟩ := kk T'.heap (locs ++ L) (hw.back is hC hn ha (fun q h1 h2 => by rw [e1]; exact hk q h1 h2) (by rw [e1]; exact hp)
    ⟨Nat.le_trans hw.2.2.1 (by rw [e1]; exact hz), fun q h1 h2 => by rw [e1, hk q (Nat.lt_of_lt_of_le h1 hw.2.2.1) (fun z => h2 (hBA q z))]; exact hw.2.2.2.1 q h1 h2, fun q hq => by
      rcases List.mem_append.mp hq with h | h
      · exact hw.2.2.2.2 q h
      · exact hBA _ (hL q h)⟩) T' rfl X'
  exact ⟨t2, st t2 a1, b1⟩
/-- a call's words -/
def MW (own : String) (index : Nat) (y : MethodName) (bytes : ByteArray) (maxL : Nat) (ret : Option FieldType) (n : Nat) : Prop :=
  (okw (.methodLink own index y) ∨ ∃ host, okw (.methodLinkNest own index y host)) ∧ okw (.initialized y.cls) ∧ (okw (.code y bytes maxL ret) ∧ goodWord (.code y bytes maxL ret) = true) ∧ (y.cls ≠ "java/lang/invoke/MethodHandle" ∧ y.cls ≠ "java/lang/invoke/VarHandle" ∧ (parseMethodDescriptor y.desc).map (fun d => d.parameters.length) = some n)
def VW (own : String) (index : Nat) (y : MethodName) (bytes : ByteArray) (maxL : Nat) (ret : Option FieldType) (n : Nat) : Prop := MW own index y bytes maxL ret n ∧ okw (.instanceMethod y) ∧ okw (.selects y.cls y y)
def SW (own : String) (index : Nat) (y : MethodName) (bytes : ByteArray) (maxL : Nat) (ret : Option FieldType) (n : Nat) : Prop := MW own index y bytes maxL ret n ∧ okw (.static y)
theorem PcT.blind {av : List Value} : FrameBlind (PcT G av w) := fun _ _ _ _ q => ⟨q.1, KK.call q.2.1, q.2.2⟩
theorem x_cb {n : Nat} (hK : KK G s) (h : MW own index y bytes maxL ret n) (hl : okw (.methodLink own index y)) (hR : fr + 1 ≤ R.frames ∧ 8 + (maxL + 11) + lo ≤ R.locals) : CallB R s args own index y bytes maxL ret [.code y bytes maxL ret] (rmx fr lo) 0 0 n := by
  obtain ⟨-, h2, ⟨h3, hg⟩, h4, h5, h6⟩ := h
  refine ⟨rfl, rfl, hR.1, hR.2, fun w' hw' a' U hW => ?_, List.mem_cons_self, hK.w h3, hK.w h2, ⟨h4, h5⟩, fun sig hs => ?_, hK.w hl⟩
  · rw [List.mem_singleton.mp hw']
    exact word_at hW (good_of_word hg) (hK.w (args := args) h3)
  · rw [hs] at h6
    exact (Option.some.inj h6).symm
theorem x_cn {n : Nat} {host : String} (hK : KK G s) (h : MW own index y bytes maxL ret n) (hl : okw (.methodLinkNest own index y host)) (hR : fr + 1 ≤ R.frames ∧ 8 + (maxL + 11) + lo ≤ R.locals) : va_CN R s args own index y host bytes maxL ret [.code y bytes maxL ret] (rmx fr lo) 0 0 n := by
  obtain ⟨-, h2, ⟨h3, hg⟩, h4, h5, h6⟩ := h
  refine ⟨⟨rfl, rfl, hR.1, hR.2, fun w' hw' a' U hW => ?_, List.mem_cons_self⟩, hK.w h3, hK.w h2, ⟨h4, h5⟩, fun sig hs => ?_, hK.w hl⟩
  · rw [List.mem_singleton.mp hw']
    exact word_at hW (good_of_word hg) (hK.w (args := args) h3)
  · rw [hs] at h6
    exact (Option.some.inj h6).symm
theorem x_pre {is : List Nat} (hK : KK G s) (hw : Wd G A s H locs ws) (hC : is.map (fun i => ws[i]?) = w.map some) (hn : va_nd is = true) (av : List Value) : ∀ U : State, U.heap = H → s.WarmedH U.vm → PcT G av w av.toArray U := by
  intro U hU hW
  refine ⟨rfl, hK.warm hW, ?_, (hw.2.1.sub is hn hC).weaken (fun _ _ _ _ => trivial)⟩
  rw [hU]
  intro k q hq
  obtain ⟨i, -, h2⟩ := map_at hC hq
  exact hw.1 i q h2
/-- a call of an instance method -/
theorem x_callV {is : List Nat} {n ci q0 : Nat} {fs : List Value} {q : vw_C} (E : Ex G p s m meth c cc nL ret own) (hM : CT l G y bytes maxL ret' fr lo (.ref b :: As) w o w') (hv : VW own index y bytes maxL ret' n) (hw : Wd G A s H locs ws) (is0 : List Nat) (his : is0 = is) (hq : ws[q0]? = some (b, .inr (ci, fs))) (hc : cls[ci]? = some q) (hqc : q.1 = y.cls) (hC : is.map (fun i => ws[i]?) = w.map some) (hnd : va_nd is = true) (ha : w'.map (·.1) = w.map (·.1)) (hlsz : ls.size = nL)
    (hn : As.length = n) (hst0 : st0 = As.reverse ++ .ref b :: rest) (hroom : (rest.map fun v => v.category).sum ≤ 8) (hR : fr + 1 ≤ R.frames ∧ 8 + (maxL + 11) + lo ≤ R.locals) (hcl : cells ≤ R.cells) (hsl : slots ≤ R.slots) (hdg : decode cc pc = .ok (.invokevirtual index, 3)) (hws : setAll ws is w' = ws') (hst : o.toList ++ rest = st1)
    (kk : ∀ (H1 : Heap) (locs1 : List Loc), Wd G A s H1 locs1 ws' → W p l e R s m args below meth c H1 locs1 cells slots Q (F0 m (pc + 3) ls st1)) : W p l e R s m args below meth c H locs cells slots Q (F0 m pc ls st0) := by
  obtain ⟨hx, hb, hml, hown, hr, hlk, hK⟩ := E
  have hrc := va_recv hK.1 hw.1 hc hq
  rw [hqc] at hrc
  have hp : PreV s H y.cls b (PcT G (.ref b :: As) w) As := ⟨PcT.blind, hrc, x_pre hK hw hC hnd _⟩
  have hts : ∀ w ∈ ([] : List Cond), w.before args s = true := fun _ h => absurd h List.not_mem_nil
  subst hst0
  rcases hv.1.1 with h | ⟨host, h⟩
  · exact x_goes (va_runV (Ts := []) ⟨hx, hb, hml, hown, hts⟩ hM ⟨x_cb hK hv.1 h hR, hK.w hv.2.1, hK.w hv.2.2⟩ hp rfl hn hlsz rfl (lv_room hroom) hdg ⟨hcl, hsl⟩) hw hC hnd ha hws hst kk
  · exact x_goes (va_runVN (Ts := []) ⟨hx, hb, hml, hown, hts⟩ hM ⟨x_cn hK hv.1 h hR, hK.w hv.2.1, hK.w hv.2.2⟩ hp rfl hn hlsz rfl (lv_room hroom) hdg ⟨hcl, hsl⟩) hw hC hnd ha hws hst kk
/-- a call of a static method -/
theorem x_callS {is : List Nat} {n : Nat} (E : Ex G p s m meth c cc nL ret own) (hM : CT l G y bytes maxL ret' fr lo As w o w') (hv : SW own index y bytes maxL ret' n) (hw : Wd G A s H locs ws) (is0 : List Nat) (his : is0 = is) (hC : is.map (fun i => ws[i]?) = w.map some) (hnd : va_nd is = true) (ha : w'.map (·.1) = w.map (·.1)) (hlsz : ls.size = nL)
    (hn : As.length = n) (hst0 : st0 = As.reverse ++ rest) (hroom : (rest.map fun v => v.category).sum ≤ 8) (hR : fr + 1 ≤ R.frames ∧ 8 + (maxL + 11) + lo ≤ R.locals) (hcl : cells ≤ R.cells) (hsl : slots ≤ R.slots) (hdg : decode cc pc = .ok (.invokestatic index, 3)) (hws : setAll ws is w' = ws') (hst : o.toList ++ rest = st1)
    (kk : ∀ (H1 : Heap) (locs1 : List Loc), Wd G A s H1 locs1 ws' → W p l e R s m args below meth c H1 locs1 cells slots Q (F0 m (pc + 3) ls st1)) : W p l e R s m args below meth c H locs cells slots Q (F0 m pc ls st0) := by
  obtain ⟨hx, hb, hml, hown, hr, hlk, hK⟩ := E
  have hp : PreS s H (PcT G As w) As := ⟨PcT.blind, x_pre hK hw hC hnd _⟩
  have hts : ∀ w ∈ ([] : List Cond), w.before args s = true := fun _ h => absurd h List.not_mem_nil
  subst hst0
  rcases hv.1.1 with h | ⟨host, h⟩
  · exact x_goes (va_runS (Ts := []) ⟨hx, hb, hml, hown, hts⟩ hM ⟨x_cb hK hv.1 h hR, hK.w hv.2⟩ hp rfl hn hlsz rfl (lv_room hroom) hdg ⟨hcl, hsl⟩) hw hC hnd ha hws hst kk
  · exact x_goes (va_runSN (Ts := []) ⟨hx, hb, hml, hown, hts⟩ hM ⟨x_cn hK hv.1 h hR, hK.w hv.2, trivial⟩ hp rfl hn hlsz rfl (lv_room hroom) hdg ⟨hcl, hsl⟩) hw hC hnd ha hws hst kk
end XC
