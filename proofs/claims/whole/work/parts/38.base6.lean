/-! constructors -/
def PcN (G : GG) (a : Nat) (w : va_W) (sz : Nat) : Array Value → State → Prop := va_Pc [.ref a] (fun U => U.heap.size = sz ∧ KK G U ∧ va_P G.1 cls w U.heap ∧ va_D (fun _ => True) w)
def QcN {σ : Type} (G : GG) (w : va_W) (sz : Nat) (F : σ → va_W) : Array Value → State → Outcome → State → Prop := fun _ st oc t => (oc = .returned none ∧ ∃ u : σ, va_P G.1 cls (F u) t.heap ∧ va_D (va_A w sz) (F u)) ∧ va_F (va_A w sz) st t
abbrev rmn (fr lo mc ms : Nat) : Room := { frames := fr, cells := mc, slots := ms, locals := lo }
/-- a constructor's contract: of the object's cell w at a it makes F u -/
def CN {σ : Type} (l : Launch) (G : GG) (y : MethodName) (cc : ByteArray) (maxL fr lo mc ms a : Nat) (w : va_W) (F : σ → va_W) : Prop :=
  ∀ sz : Nat, Met l y [.code y cc maxL none] (rmn fr lo mc ms) (PcN G a w sz) (QcN G w sz F) mc ms (va_A w sz)
theorem PcN.blind {G : GG} {a : Nat} {w : va_W} {sz : Nat} : FrameBlind (PcN G a w sz) := fun _ _ _ _ q => ⟨q.1, q.2.1, KK.call q.2.2.1, q.2.2.2⟩
theorem CN.mk {σ : Type} {l : Launch} {G : GG} {y : MethodName} {cc : ByteArray} {maxL fr lo mc ms a : Nat} {w : va_W} {F : σ → va_W} {own : String} (hy : plainName y.cls = true) (ho : y.cls = own) (hnm : y.name = "<init>") (hn : 1 ≤ maxL)
    (body : ∀ (p : Program) (e : Env) (s : State) (m : MethodId) (args : Array Value) (below : List Frame) (meth : Method) (c : Code) (A : Nat → Prop) (Q : State → Prop), Ex G p s m meth c cc maxL none own → meth.name = "<init>" → (∀ q, s.heap.size ≤ q → A q) → (∀ q, A q → va_A w s.heap.size q) → Bd G A s s.heap [] [w] → (∀ t, MQ below (QcN G w s.heap.size F) args s mc ms (va_A w s.heap.size) t → Q t) → ∀ ls : Array Slot, lv_has ls maxL [(0, .ref a)] → W p l e (rmn fr lo mc ms) s m args below meth c s.heap [] 0 0 Q (F0 m 0 ls [])) : CN l G y cc maxL fr lo mc ms a w F := by
  intro sz
  refine Met.ofW (cc := cc) (maxL := maxL) (ret := none) hy rfl ?_
  intro p e s m args below meth c s₁ B hml hv
  obtain ⟨rfl, rfl, hK, hP, hD⟩ := hv
  have hl := lv_entry [.ref a] (n := maxL) hn
  rw [lg_entry_eq]
  have hin : meth.name = "<init>" := by rw [(name_of_methodNamed B.named B.method).1]; exact hnm
  exact body p e s m _ below meth c (va_A w s.heap.size) _ ⟨B.exec, B.bytes, hml, ho ▸ findClass_of_methodNamed B.named, B.returns, B.notSynchronized, hK⟩ hin (fun q h => Or.inr h) (fun _ h => h) (by show Wd G _ s s.heap [] ([w].flatten); rw [show [w].flatten = w from by simp]; exact ⟨hP, hD.self, va_S.rf⟩) (fun _ h => h) _ hl
theorem n_join {A0 : Nat → Prop} {D : va_G} {cl : List vw_C} {w0 wc w1 : va_W} {H H1 : Heap} (hP : va_P D cl (w0 ++ wc) H) (hD : va_D A0 (w0 ++ wc)) (hk : ∀ q : Nat, q < H.size → ¬ va_A wc H.size q → H1[q]? = H[q]?) (hF : ∀ q, va_A wc H.size q → A0 q) (hP1 : va_P D cl w1 H1) (hD1 : va_D (va_A wc H.size) w1) : va_P D cl (w0 ++ w1) H1 ∧ va_D A0 (w0 ++ w1) := by
  have lft : ∀ (k : Nat) (x : Nat × va_E), w0[k]? = some x → k < w0.length ∧ (w0 ++ wc)[k]? = some x := fun k x h => by
    have hl := (List.getElem?_eq_some_iff.mp h).1
    exact ⟨hl, by rw [List.getElem?_append_left hl]; exact h⟩
  have apart : ∀ (k : Nat) (x : Nat × va_E), w0[k]? = some x → x.1 < H.size ∧ ¬ va_A wc H.size x.1 := fun k x h => by
    obtain ⟨h1, h2⟩ := lft k x h
    have hl := (hP k x h2).lt
    refine ⟨hl, fun q => ?_⟩
    rcases q with ⟨k2, e, q⟩ | q
    · have h3 : (w0 ++ wc)[w0.length + k2]? = some (x.1, e) := by rw [List.getElem?_append_right (by omega), Nat.add_sub_cancel_left]; exact q
      have := hD.1 k (w0.length + k2) x (x.1, e) h2 h3 rfl
      omega
    · omega
  refine ⟨va_P.app (fun k q hq => ?_) hP1, va_D.app ⟨fun i j x y hi hj hxy => hD.1 i j x y (lft i x hi).2 (lft j y hj).2 hxy, fun k x hx => hD.2 k x (lft k x hx).2⟩ (hD1.weaken (fun k q _ h => hF q.1 h)) (fun i j x y hx hy hxy => ?_)⟩
  · obtain ⟨g1, g2⟩ := apart k q hq
    exact (hP k q (lft k q hq).2).kept (hk q.1 g1 g2)
  · exact (apart i x hx).2 (by rw [hxy]; exact hD1.2 j y hy)
theorem flat_snoc (bs : List va_W) (w : va_W) : (bs ++ [w]).flatten = bs.flatten ++ w := by simp
section XN
variable {p : Program} {l : Launch} {e : Env} {R : Room} {s : State} {m : MethodId} {args : Array Value} {below : List Frame} {meth : Method} {c : Code} {H : Heap} {locs : List Loc} {cells slots : Nat} {Q : State → Prop}
variable {G : GG} {A : Nat → Prop} {bs bs0 : List va_W} {B w : va_W} {cc bytes : ByteArray} {nL maxL : Nat} {ret : Option FieldType} {own : String} {pc index fr lo mc ms a : Nat} {ls : Array Slot} {rest st0 : List Value} {b : Nat} {y : MethodName}
/-- new -/
def NW (own : String) (index : Nat) (C : String) (N : Nat) : Prop := okw (.classLink own index C) ∧ okw (.instantiable C N) ∧ okw (.initialized C)
theorem n_new (E : Ex G p s m meth c cc nL ret own) (hA : ∀ q, s.heap.size ≤ q → A q) (hw : Bd G A s H locs bs) {ci N : Nat} {C : String} {T : u_T} (hc : cls[ci]? = some (C, T, N)) (nw : NW own index C N) (lay : ∀ x ∈ u_ws C T N, okw x) (ty : Nat → FieldType) (hty : ∀ k, k < N → parseFieldDescriptor (T k).2.2.1 = some (ty k)) {fs : List Value} (hfs : ∀ j, j < N → defaultValue (ty j) = vp_V fs j) (hcells : cells + 1 ≤ R.cells) (hslots : slots + N ≤ R.slots) (hdg : decode cc pc = .ok (.new index, 3)) {bs' : Nat → List va_W} (hbs : ∀ q, bs ++ [[(q, .inr (ci, fs))]] = bs' q) {cells' slots' : Nat} (h1 : cells + 1 = cells') (h2 : slots + N = slots')
    (kk : ∀ (q : Nat) (H1 : Heap), Bd G A s H1 locs (bs' q) → W p l e R s m args below meth c H1 locs cells' slots' Q (F0 m (pc + 3) ls (.ref q :: rest))) : W p l e R s m args below meth c H locs cells slots Q (F0 m pc ls rest) := by
  subst h1; subst h2
  obtain ⟨hx, hb, hml, hown, hr, hlk, hK⟩ := E
  refine va_new (Ts := u_ws C T N) hx hb (fun w' h' => hK.w (lay w' h')) (fun _ h => h) ty hty hown (hK.w nw.1) (hK.w nw.2.1) (hK.w nw.2.2) hK.1 hw.1 hw.2.1 hw.2.2 hA hc hfs hcells hslots hdg (fun q H1 g1 g2 g3 => kk q H1 ?_)
  rw [← hbs q]
  show Wd G A s H1 locs _
  rw [flat_snoc]
  exact ⟨g1, g2, g3⟩
/-- new arrays of ints, bytes, booleans -/
theorem n_newa (E : Ex G p s m meth c cc nL ret own) (hA : ∀ q, s.heap.size ≤ q → A q) (hw : Bd G A s H locs bs) {atype : ArrayType} {ty : FieldType} (harr : okw (.arrayClass ty)) (hty : newarray.typeOf atype = ty) (t0 : Nat) (ht : (gty G)[t0]? = some (G.2 t0, ty)) (hne : ∀ C, ty ≠ .object C) (N : Nat) (hd : ∀ cA : ClassId, vp_cell cA (N, .inl (fun _ => 0)) = arrV cA N (fun _ => defaultValue ty)) {n : Int32} (hn : n = nI N) (hN : N < 1000) (hbytes : N * componentBytes ty ≤ 536870912) (hcells : cells + 1 ≤ R.cells) (hslots : slots + N ≤ R.slots) (hdg : decode cc pc = .ok (.newarray atype, 2)) {bs' : Nat → List va_W} (hbs : ∀ q, bs ++ [[(q, .inl (G.2 t0, N, .inl (fun _ => 0)))]] = bs' q) {cells' slots' : Nat} (h1 : cells + 1 = cells') (h2 : slots + N = slots')
    (kk : ∀ (q : Nat) (H1 : Heap), Bd G A s H1 locs (bs' q) → W p l e R s m args below meth c H1 locs cells' slots' Q (F0 m (pc + 2) ls (.ref q :: rest))) : W p l e R s m args below meth c H locs cells slots Q (F0 m pc ls (.int n :: rest)) := by
  subst h1; subst h2; subst hn
  obtain ⟨hx, hb, hml, hown, hr, hlk, hK⟩ := E
  refine va_newa (a0 := (N, .inl (fun _ => 0))) hx hb (by rw [hty]; exact hK.w harr) hty hK.1 hw.1 hw.2.1 hw.2.2 hA hd (nI_pos (by omega)) (nI_clamp (by omega)) hbytes hcells hslots hdg (fun q cA H1 g0 g1 g2 g3 => kk q H1 ?_)
  have e1 := (hK.1.2 t0 _ ht).2
  have e2 := (g0.2 (gty G).length (cA, ty) (by simp)).2
  have e3 : cA = G.2 t0 := by
    cases ty <;> first | exact absurd rfl (hne _) | exact Option.some.inj (e2.symm.trans e1)
  subst e3
  rw [← hbs q]
  show Wd G A s H1 locs _
  rw [flat_snoc]
  exact ⟨g1, g2, g3⟩
theorem n_newq (E : Ex G p s m meth c cc nL ret own) (hA : ∀ q, s.heap.size ≤ q → A q) (hw : Bd G A s H locs bs) {C : String} (hcl : okw (.classLink own index C)) (hov : okw (.arrayOver (.object C))) (t0 : Nat) (ht : (gty G)[t0]? = some (G.2 t0, .object C)) (N : Nat) {n : Int32} (hn : n = nI N) (hN : N < 1000) (hcells : cells + 1 ≤ R.cells) (hslots : slots + N ≤ R.slots) (hdg : decode cc pc = .ok (.anewarray index, 3)) {bs' : Nat → List va_W} (hbs : ∀ q, bs ++ [[(q, .inl (G.2 t0, N, .inr (.inr (.inr (.inr (fun _ => none))))))]] = bs' q) {cells' slots' : Nat} (h1 : cells + 1 = cells') (h2 : slots + N = slots')
    (kk : ∀ (q : Nat) (H1 : Heap), Bd G A s H1 locs (bs' q) → W p l e R s m args below meth c H1 locs cells' slots' Q (F0 m (pc + 3) ls (.ref q :: rest))) : W p l e R s m args below meth c H locs cells slots Q (F0 m pc ls (.int n :: rest)) := by
  subst h1; subst h2; subst hn
  obtain ⟨hx, hb, hml, hown, hr, hlk, hK⟩ := E
  refine va_newq hx hb hown (hK.w hcl) (hK.w hov) hK.1 hw.1 hw.2.1 hw.2.2 hA (nI_pos (by omega)) (nI_clamp (by omega)) (by omega) hcells hslots hdg (fun q cA H1 g0 g1 g2 g3 => kk q H1 ?_)
  obtain ⟨_, _, _, _, _, e1⟩ := (hK.1.2 t0 _ ht).2
  obtain ⟨_, _, _, _, _, e2⟩ := (g0.2 (gty G).length (cA, .object C) (by simp)).2
  have e3 : cA = G.2 t0 := Option.some.inj (e2.symm.trans e1)
  subst e3
  rw [← hbs q]
  show Wd G A s H1 locs _
  rw [flat_snoc]
  exact ⟨g1, g2, g3⟩
/-- a final field -/
def FF (own : String) (index ci k : Nat) : Prop := ∃ (C : String) (T : u_T) (N : Nat) (ty0 : Nat → FieldType), cls[ci]? = some (C, T, N) ∧ k < N ∧ (∀ x ∈ u_ws C T N, okw x) ∧ (∀ j, j < N → parseFieldDescriptor (T j).2.2.1 = some (ty0 j)) ∧ (∀ a, a < N → ∀ b, b < N → a ≠ b → (T a).2.1 ≠ (T b).2.1) ∧ okw (.fieldLink own index (T k).1 (T k).2.1 (T k).2.2.1) ∧ (T k).1 = own
theorem n_putF (E : Ex G p s m meth c cc nL ret own) (hin : meth.name = "<init>") (hw : Bd G A s H locs bs) {ci k : Nat} (f : FF own index ci k) (i j : Nat) (hi : bs[i]? = some B) {fs : List Value} (he : B[j]? = some (a, .inr (ci, fs))) {v : Value} {ty : FieldType} {C : String} {T : u_T} {N : Nat} (hc : cls[ci]? = some (C, T, N)) (hfin : (T k).2.2.2 = true) (hd : parseFieldDescriptor (T k).2.2.1 = some ty) (hn : narrow ty v = v) (hfit : fits ty v = true) (hlen : k < fs.length) (hdg : decode cc pc = .ok (.putfield index, 3)) {bs' : List va_W} (hws : bs.set i (B.set j (a, .inr (ci, fs.set k v))) = bs')
    (kk : ∀ (H1 : Heap) (locs1 : List Loc), Bd G A s H1 locs1 bs' → W p l e R s m args below meth c H1 locs1 cells slots Q (F0 m (pc + 3) ls rest)) : W p l e R s m args below meth c H locs cells slots Q (F0 m pc ls (v :: .ref a :: rest)) := by
  obtain ⟨C2, T2, N2, ty0, hc2, hk, hl, hty, hnm, ho, hdecl⟩ := f
  obtain ⟨hx, hb, hml, hown, hr, hlk, hK⟩ := E
  cases hc.symm.trans hc2
  obtain ⟨q0, h1, h2⟩ := flat_at hi he
  subst hws
  refine va_putF (Ts := u_ws C T N) hx hb (fun w' h' => hK.w (hl w' h')) (fun _ h => h) ty0 hty hnm hown hK.1 hw.1 hw.2.1 hw.2.2 q0 h1 hc k hk (hK.w ho) (fun _ h => h) hfin hin hdecl hd hn hfit hlen hdg (fun H1 locs1 g1 g2 g3 => kk H1 locs1 ?_)
  show Wd G A s H1 locs1 _
  rw [← h2]
  exact ⟨g1, g2, g3⟩
theorem n_astq (E : Ex G p s m meth c cc nL ret own) (hw : Bd G A s H locs bs) (i0 j0 i1 j1 t0 ci : Nat) {B1 : va_W} (hi0 : bs[i0]? = some B) (hi1 : bs[i1]? = some B1) {r : vw_C} {cA : ClassId} {n v : Nat} {vs : List Value} {f : Nat → Option Nat} (ha : B[j0]? = some (a, .inl (cA, n, .inr (.inr (.inr (.inr f)))))) (ht : (gty G)[t0]? = some (cA, .object r.1)) (hv : B1[j1]? = some (v, .inr (ci, vs))) (hc : cls[ci]? = some r) {x : Int32} (k : Nat) (hx : x = nI k) (hk : k < n) (hn : n < 1000) (hdg : decode cc pc = .ok (.aastore, 1)) {bs' : List va_W} (hws : bs.set i0 (B.set j0 (a, .inl (cA, n, .inr (.inr (.inr (.inr (va_up f k (some v)))))))) = bs')
    (kk : ∀ (H1 : Heap) (locs1 : List Loc), Bd G A s H1 locs1 bs' → W p l e R s m args below meth c H1 locs1 cells slots Q (F0 m (pc + 1) ls rest)) : W p l e R s m args below meth c H locs cells slots Q (F0 m pc ls (.ref v :: .int x :: .ref a :: rest)) := by
  obtain ⟨q0, h1, h2⟩ := flat_at hi0 ha
  obtain ⟨q1, h3, -⟩ := flat_at hi1 hv
  subst hws; subst hx
  refine va_astq E.1 E.2.1 E.2.2.2.2.2.2.1 hw.1 hw.2.1 hw.2.2 q0 t0 q1 ci h1 ht h3 hc (vp_in_nI hk (by omega)) hdg (fun H1 locs1 g1 g2 g3 => kk H1 locs1 ?_)
  rw [nI_clamp (by omega)] at g1 g2
  show Wd G A s H1 locs1 _
  rw [← h2]
  exact ⟨g1, g2, g3⟩
/-- Object.<init> -/
def OW (own : String) (index : Nat) : Prop := okw (.methodLink own index Lib.objectInit) ∧ okw (.instanceMethod Lib.objectInit) ∧ okw (.code Lib.objectInit ⟨#[0xb1]⟩ 1 none)
theorem n_obj (E : Ex G p s m meth c cc nL ret own) (ow : OW own index) (hls : ls.size = nL) (hframes : 1 ≤ R.frames) (hlocals : (rest.map fun v => v.category).sum + 12 ≤ R.locals) (hdg : decode cc pc = .ok (.invokespecial index, 3))
    (kk : W p l e R s m args below meth c H locs cells slots Q (F0 m (pc + 3) ls rest)) : W p l e R s m args below meth c H locs cells slots Q (F0 m pc ls (.ref a :: rest)) :=
  W.objInit E.1 E.2.1 E.2.2.2.1 (E.2.2.2.2.2.2.w ow.1) (E.2.2.2.2.2.2.w ow.2.1) (E.2.2.2.2.2.2.w ow.2.2) rfl (by rw [E.2.2.1]; exact hls) rfl hdg hframes (by show 2 * 0 + _ + 12 ≤ _; omega) kk
/-- a constructor's call: the object is the last block -/
def IW (own : String) (index : Nat) (y : MethodName) (bytes : ByteArray) (maxL : Nat) : Prop := MW own index y bytes maxL none 0 ∧ y.name = "<init>" ∧ okw (.instanceMethod y)
theorem n_callI {σ : Type} {F : σ → va_W} (E : Ex G p s m meth c cc nL ret own) (hA : ∀ q, s.heap.size ≤ q → A q) (hM : CN l G y bytes maxL fr lo mc ms b w F) (iw : IW own index y bytes maxL) (hw : Bd G A s H locs bs) (hbs : bs = bs0 ++ [w]) (hlsz : ls.size = nL) (hroom : (rest.map fun v => v.category).sum ≤ 8) (hR : fr + 1 ≤ R.frames ∧ 8 + (maxL + 11) + lo ≤ R.locals) (hcl : cells + mc ≤ R.cells) (hsl : slots + ms ≤ R.slots) (hdg : decode cc pc = .ok (.invokespecial index, 3)) {bs' : σ → List va_W} (hbs' : ∀ u, bs0 ++ [F u] = bs' u) {cells' slots' : Nat} (h1 : cells + mc = cells') (h2 : slots + ms = slots')
    (kk : ∀ (u : σ) (H1 : Heap) (locs1 : List Loc), Bd G A s H1 locs1 (bs' u) → W p l e R s m args below meth c H1 locs1 cells' slots' Q (F0 m (pc + 3) ls rest)) : W p l e R s m args below meth c H locs cells slots Q (F0 m pc ls (.ref b :: rest)) := by
  subst h1; subst h2; subst hbs
  obtain ⟨hx, hb, hml, hown, hr, hlk, hK⟩ := E
  have hw' : Wd G A s H locs (bs0.flatten ++ w) := by rw [← flat_snoc]; exact hw
  have hD2 : va_D (fun _ => True) w := ⟨fun i j x y hi hj hxy => by
      have := hw'.2.1.1 (bs0.flatten.length + i) (bs0.flatten.length + j) x y (by rw [List.getElem?_append_right (by omega), Nat.add_sub_cancel_left]; exact hi) (by rw [List.getElem?_append_right (by omega), Nat.add_sub_cancel_left]; exact hj) hxy
      omega, fun _ _ _ => trivial⟩
  have hPw : va_P G.1 cls w H := va_P_mem.mpr (fun c hc => va_P_mem.mp hw'.1 c (List.mem_append_right _ hc))
  have hF : ∀ q, va_A w H.size q → A q := fun q h => by
    rcases h with ⟨k, e', h⟩ | h
    · exact hw'.2.1.2 (bs0.flatten.length + k) (q, e') (by rw [List.getElem?_append_right (by omega), Nat.add_sub_cancel_left]; exact h)
    · exact hA q (Nat.le_trans hw'.2.2.1 h)
  have hp : PreS s H (PcN G b w H.size) [.ref b] := ⟨PcN.blind, fun U hU hW => ⟨rfl, by rw [hU], hK.warm hW, by rw [hU]; exact hPw, hD2⟩⟩
  have hts : ∀ w ∈ ([] : List Cond), w.before args s = true := fun _ h => absurd h List.not_mem_nil
  have go : va_Run p l e R s m args below meth c H locs cells slots mc ms (F0 m pc ls (.ref b :: rest)) rest (QcN G w H.size F (Value.ref b :: []).toArray) (va_A w H.size) := by
    obtain ⟨⟨hlw, g2, ⟨g3, hg⟩, g4, g5, g6⟩, hnm, hinst⟩ := iw
    have cd : ∀ w' ∈ ([.code y bytes maxL none] : List Cond), ∀ (a' : Array Value) (U : State), s.WarmedH U.vm → w'.before a' U = true := fun w' hw' a' U hW => by
      rw [List.mem_singleton.mp hw']
      exact word_at hW (good_of_word hg) (hK.w (args := args) g3)
    have hlen : ∀ sig, parseMethodDescriptor y.desc = some sig → sig.parameters.length = 0 := fun sig hs => by
      rw [hs] at g6
      exact Option.some.inj g6
    rcases hlw with h | ⟨host, h⟩
    · exact va_runI (Ts := []) (As := []) ⟨hx, hb, hml, hown, hts⟩ (hM H.size) ⟨⟨rfl, rfl, hR.1, hR.2, cd, List.mem_cons_self, hK.w g3, hK.w g2, ⟨g4, g5⟩, fun sig hs => (hlen sig hs).symm, hK.w h⟩, hnm, hK.w hinst⟩ hp rfl rfl hlsz rfl (lv_room hroom) hdg ⟨hcl, hsl⟩
    · exact va_runIN (Ts := []) (As := []) ⟨hx, hb, hml, hown, hts⟩ (hM H.size) ⟨⟨⟨rfl, rfl, hR.1, hR.2, cd, List.mem_cons_self⟩, hK.w g3, hK.w g2, ⟨g4, g5⟩, fun sig hs => (hlen sig hs).symm, hK.w h⟩, hnm, hK.w hinst⟩ hp rfl rfl hlsz rfl (lv_room hroom) hdg ⟨hcl, hsl⟩
  intro T hT X
  obtain ⟨v, st₀, t, T', L, h0, X', hL, e1, e2, ⟨⟨hv, u, hP1, hD1⟩, hz, hk⟩, st⟩ := go T hT X
  cases hv
  rw [h0] at hz hk
  obtain ⟨j1, j2⟩ := n_join (H1 := T'.heap) hw'.1 hw'.2.1 (fun q a1 a2 => by rw [e1]; exact hk q a1 a2) hF (by rw [e1]; exact hP1) hD1
  obtain ⟨t2, a1, b1⟩ := kk u T'.heap (locs ++ L) (by
    rw [← hbs' u]
    show Wd G A s T'.heap (locs ++ L) _
    rw [flat_snoc]
    exact ⟨j1, j2, Nat.le_trans hw'.2.2.1 (by rw [e1]; exact hz), fun q a1 a2 => by rw [e1, hk q (Nat.lt_of_lt_of_le a1 hw'.2.2.1) (fun z => a2 (hF q z))]; exact hw'.2.2.2.1 q a1 a2, fun q hq => by
      rcases List.mem_append.mp hq with h | h
      · exact hw'.2.2.2.2 q h
      · exact hF _ (hL q h)⟩) T' rfl X'
  exact ⟨t2, st t2 a1, b1⟩
theorem n_ret {σ : Type} {F : σ → va_W} (u : σ) (E : Ex G p s m meth c cc nL none own) (hAA : ∀ q, A q → va_A w s.heap.size q) (rt : ∀ t, MQ below (QcN G w s.heap.size F) args s mc ms (va_A w s.heap.size) t → Q t) (hw : Bd G A s H locs bs) (hdg : decode cc pc = .ok (.return_, 1)) (hww : bs.flatten = F u) : W p l e R s m args below meth c H locs mc ms Q (F0 m pc ls []) := by
  have hw' : Wd G A s H locs (F u) := by rw [← hww]; exact hw
  exact W.mono rt (W.vret E.1 E.2.1 E.2.2.2.2.1 (fun t ht hW => ⟨⟨rfl, u, by rw [ht]; exact hw'.1, hw'.2.1.weaken (fun _ _ _ h => hAA _ h)⟩, ⟨by rw [ht]; exact hw'.2.2.1, fun q h1 h2 => by rw [ht]; exact hw'.2.2.2.1 q h1 (fun z => h2 (hAA q z))⟩⟩) (fun q hq => hAA _ (hw'.2.2.2.2 q hq)) hdg E.2.2.2.2.2.1)
end XN
def at0 (a : Nat) (u : Nat → Nat) : Nat → Nat
  | 0 => a
  | i + 1 => u i
theorem arrq_eq {cA : ClassId} {n : Nat} {f g : Nat → Option Nat} (h : ∀ j, j < n → f j = g j) : vp_cell cA (n, .inr (.inr (.inr (.inr f)))) = vp_cell cA (n, .inr (.inr (.inr (.inr g)))) := by
  rw [vp_cell_q, vp_cell_q]
  unfold arrV
  congr 2
  funext j
  show va_rf (f j.val) = va_rf (g j.val)
  rw [h j.val j.isLt]
theorem Bd.arrq {G : GG} {A : Nat → Prop} {s : State} {H : Heap} {locs : List Loc} {bs bs' : List va_W} {B : va_W} {a : Nat} (hw : Bd G A s H locs bs) (i0 j0 : Nat) (hi0 : bs[i0]? = some B) {cA : ClassId} {n : Nat} {f g : Nat → Option Nat} (ha : B[j0]? = some (a, .inl (cA, n, .inr (.inr (.inr (.inr f)))))) (h : ∀ j, j < n → f j = g j) (hws : bs.set i0 (B.set j0 (a, .inl (cA, n, .inr (.inr (.inr (.inr g)))))) = bs') : Bd G A s H locs bs' := by
  obtain ⟨q0, h1, h2⟩ := flat_at hi0 ha
  subst hws
  show Wd G A s H locs _
  rw [← h2]
  refine ⟨hw.1.set hw.2.1 h1 ?_ (fun _ _ => rfl), hw.2.1.set h1, hw.2.2⟩
  show H[a]? = some (vp_cell cA (n, .inr (.inr (.inr (.inr g)))))
  rw [← arrq_eq h]
  exact hw.1 q0 _ h1
def z0 : Nat → Int32 := fun _ => 0
def Tb0 : Tb := (0, 0, 0, 0, 0, z0, z0, z0, z0, z0)
def pastU (q : Nat) (t0 t1 t2 t3 t4 t5 t6 t7 : Nat → Nat) : Nat → Nat := fun k => if k = 0 then q else (match (k - 9) / 10 with | 0 => t0 | 1 => t1 | 2 => t2 | 3 => t3 | 4 => t4 | 5 => t5 | 6 => t6 | _ => t7) ((k - 9) % 10)
