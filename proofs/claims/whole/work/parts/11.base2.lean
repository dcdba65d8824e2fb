/-! contracts that leave some cells open: what the cells are behind the method is F u for some u -/
def QcE {σ : Type} (G : GG) (w : va_W) (o : Option Value) (F : σ → va_W) : Array Value → State → Outcome → State → Prop := fun _ st oc t => (oc = .returned o ∧ ∃ u : σ, va_P G.1 cls (F u) t.heap) ∧ va_F (va_B w) st t
def CE {σ : Type} (l : Launch) (G : GG) (y : MethodName) (cc : ByteArray) (maxL : Nat) (ret : Option FieldType) (fr lo : Nat) (av : List Value) (w : va_W) (o : Option Value) (F : σ → va_W) : Prop :=
  Met l y [.code y cc maxL ret] (rmx fr lo) (PcT G av w) (QcE G w o F) 0 0 (va_B w)
def RtE {σ : Type} (G : GG) (s : State) (args : Array Value) (below : List Frame) (w : va_W) (o : Option Value) (F : σ → va_W) (Q : State → Prop) : Prop := ∀ t, MQ below (QcE G w o F) args s 0 0 (va_B w) t → Q t
theorem CE.mk {σ : Type} {l : Launch} {G : GG} {y : MethodName} {cc : ByteArray} {maxL : Nat} {ret : Option FieldType} {fr lo : Nat} {av : List Value} {w : va_W} {o : Option Value} {F : σ → va_W} {own : String} {la : List (Nat × Value)} (hy : plainName y.cls = true) (ho : y.cls = own) (hn : (lg_sl av).length ≤ maxL) (hla : lv_args 0 av = la)
    (body : ∀ (p : Program) (e : Env) (s : State) (m : MethodId) (args : Array Value) (below : List Frame) (meth : Method) (c : Code) (A : Nat → Prop) (Q : State → Prop), Ex G p s m meth c cc maxL ret own → (∀ q, A q → va_B w q) → Wd G A s s.heap [] w → RtE G s args below w o F Q → ∀ ls : Array Slot, lv_has ls maxL la → W p l e (rmx fr lo) s m args below meth c s.heap [] 0 0 Q (F0 m 0 ls [])) : CE l G y cc maxL ret fr lo av w o F := by
  refine Met.ofW (cc := cc) (maxL := maxL) (ret := ret) hy rfl ?_
  intro p e s m args below meth c s₁ B hml hv
  obtain ⟨rfl, hK, hP, hD⟩ := hv
  have hl := lv_entry av (n := maxL) hn
  rw [lg_entry_eq]
  subst hla
  exact body p e s m _ below meth c (va_B w) _ ⟨B.exec, B.bytes, hml, ho ▸ findClass_of_methodNamed B.named, B.returns, B.notSynchronized, hK⟩ (fun _ h => h) ⟨hP, ⟨hD.1, fun k q hk => ⟨k, q.2, hk⟩⟩, va_S.rf⟩ (fun _ h => h) _ hl
theorem CT.toE {σ : Type} {l : Launch} {G : GG} {y : MethodName} {cc : ByteArray} {maxL : Nat} {ret : Option FieldType} {fr lo : Nat} {av : List Value} {w w' : va_W} {o : Option Value} {F : σ → va_W} (u : σ) (h : CT l G y cc maxL ret fr lo av w o w') (hw : w' = F u) : CE l G y cc maxL ret fr lo av w o F := by
  subst hw
  intro p e h1 h2 h3 s m args below h4 h5 h6 h7
  obtain ⟨k, oc, a1, a2, a3, ⟨⟨b1, b2⟩, b3⟩, b4⟩ := h p e h1 h2 h3 s m args below h4 h5 h6 h7
  exact ⟨k, oc, a1, a2, a3, ⟨⟨b1, u, b2⟩, b3⟩, b4⟩
section XE
variable {σ : Type} {p : Program} {l : Launch} {e : Env} {R : Room} {s : State} {m : MethodId} {args : Array Value} {below : List Frame} {meth : Method} {c : Code} {H : Heap} {locs : List Loc} {cells slots : Nat} {Q : State → Prop}
variable {G : GG} {A : Nat → Prop} {ws w : va_W} {F : σ → va_W} {cc bytes : ByteArray} {nL maxL : Nat} {ret ret' : Option FieldType} {own : String} {pc index fr lo : Nat} {ls : Array Slot} {rest st0 st1 As : List Value} {b : Nat} {y : MethodName} {o : Option Value} {v r : Int32} {v8 r8 : Int64}
theorem x_iretE (u : σ) (E : Ex G p s m meth c cc nL (some .int) own) (hA : ∀ q, A q → va_B w q) (rt : RtE G s args below w (some (.int r)) F Q) (hw : Wd G A s H locs ws) (hdg : decode cc pc = .ok (.ireturn, 1)) (hv : v = r) (hww : ws = F u) : W p l e R s m args below meth c H locs 0 0 Q (F0 m pc ls [.int v]) := by
  subst hv; subst hww
  exact W.mono rt (W.iret E.1 E.2.1 E.2.2.2.2.1 (fun t ht hW => ⟨⟨rfl, u, by rw [ht]; exact hw.1⟩, (Wd.F hA hw).F ht⟩) (Wd.F hA hw).2.2 hdg E.2.2.2.2.2.1)
theorem x_vretE (u : σ) (E : Ex G p s m meth c cc nL none own) (hA : ∀ q, A q → va_B w q) (rt : RtE G s args below w none F Q) (hw : Wd G A s H locs ws) (hdg : decode cc pc = .ok (.return_, 1)) (hww : ws = F u) : W p l e R s m args below meth c H locs 0 0 Q (F0 m pc ls []) := by
  subst hww
  exact W.mono rt (W.vret E.1 E.2.1 E.2.2.2.2.1 (fun t ht hW => ⟨⟨rfl, u, by rw [ht]; exact hw.1⟩, (Wd.F hA hw).F ht⟩) (Wd.F hA hw).2.2 hdg E.2.2.2.2.2.1)
theorem x_goesE {a : Array Value} {is : List Nat} (hr : va_Run p l e R s m args below meth c H locs cells slots 0 0 (F0 m pc ls st0) rest (QcE G w o F a) (va_B w)) (hw : Wd G A s H locs ws) (hC : is.map (fun i => ws[i]?) = w.map some) (hn : va_nd is = true) (ha : ∀ u, (F u).map (·.1) = w.map (·.1)) {ws' : σ → va_W} (hws : ∀ u, setAll ws is (F u) = ws' u) (hst : o.toList ++ rest = st1)
    (kk : ∀ (u : σ) (H1 : Heap) (locs1 : List Loc), Wd G A s H1 locs1 (ws' u) → W p l e R s m args below meth c H1 locs1 cells slots Q (F0 m (pc + 3) ls st1)) : W p l e R s m args below meth c H locs cells slots Q (F0 m pc ls st0) := by
  intro T hT X
  obtain ⟨v, st₀, t, T', L, h0, X', hL, e1, e2, ⟨⟨hv, u, hp⟩, hz, hk⟩, st⟩ := hr T hT X
  cases hv
  rw [h0] at hz hk
  subst hst
  have hBA : ∀ q, va_B w q → A q := fun q ⟨k, e', h⟩ => by
    obtain ⟨i, -, h2⟩ := map_at hC h
    exact hw.2.1.2 i _ h2
  obtain ⟨t2, a1, b1⟩ := kk u T'.heap (locs ++ L) (hws u ▸ hw.back is hC hn (ha u) (fun q h1 h2 => by rw [e1]; exact hk q h1 h2) (by rw [e1]; exact hp)
    ⟨Nat.le_trans hw.2.2.1 (by rw [e1]; exact hz), fun q h1 h2 => by rw [e1, hk q (Nat.lt_of_lt_of_le h1 hw.2.2.1) (fun z => h2 (hBA q z))]; exact hw.2.2.2.1 q h1 h2, fun q hq => by
      rcases List.mem_append.mp hq with h | h
      · exact hw.2.2.2.2 q h
      · exact hBA _ (hL q h)⟩) T' rfl X'
  exact ⟨t2, st t2 a1, b1⟩
theorem x_callVE {is : List Nat} {n ci q0 : Nat} {fs : List Value} {q : vw_C} (E : Ex G p s m meth c cc nL ret own) (hM : CE l G y bytes maxL ret' fr lo (.ref b :: As) w o F) (hv : VW own index y bytes maxL ret' n) (hw : Wd G A s H locs ws) (is0 : List Nat) (his : is0 = is) (hq : ws[q0]? = some (b, .inr (ci, fs))) (hc : cls[ci]? = some q) (hqc : q.1 = y.cls) (hC : is.map (fun i => ws[i]?) = w.map some) (hnd : va_nd is = true) (ha : ∀ u, (F u).map (·.1) = w.map (·.1)) (hlsz : ls.size = nL)
    (hn : As.length = n) (hst0 : st0 = As.reverse ++ .ref b :: rest) (hroom : (rest.map fun v => v.category).sum ≤ 8) (hR : fr + 1 ≤ R.frames ∧ 8 + (maxL + 11) + lo ≤ R.locals) (hcl : cells ≤ R.cells) (hsl : slots ≤ R.slots) (hdg : decode cc pc = .ok (.invokevirtual index, 3)) {ws' : σ → va_W} (hws : ∀ u, setAll ws is (F u) = ws' u) (hst : o.toList ++ rest = st1)
    (kk : ∀ (u : σ) (H1 : Heap) (locs1 : List Loc), Wd G A s H1 locs1 (ws' u) → W p l e R s m args below meth c H1 locs1 cells slots Q (F0 m (pc + 3) ls st1)) : W p l e R s m args below meth c H locs cells slots Q (F0 m pc ls st0) := by
  obtain ⟨hx, hb, hml, hown, hr, hlk, hK⟩ := E
  have hrc := va_recv hK.1 hw.1 hc hq
  rw [hqc] at hrc
  have hp : PreV s H y.cls b (PcT G (.ref b :: As) w) As := ⟨PcT.blind, hrc, x_pre hK hw hC hnd _⟩
  have hts : ∀ w ∈ ([] : List Cond), w.before args s = true := fun _ h => absurd h List.not_mem_nil
  subst hst0
  rcases hv.1.1 with h | ⟨host, h⟩
  · exact x_goesE (va_runV (Ts := []) ⟨hx, hb, hml, hown, hts⟩ hM ⟨x_cb hK hv.1 h hR, hK.w hv.2.1, hK.w hv.2.2⟩ hp rfl hn hlsz rfl (lv_room hroom) hdg ⟨hcl, hsl⟩) hw hC hnd ha hws hst kk
  · exact x_goesE (va_runVN (Ts := []) ⟨hx, hb, hml, hown, hts⟩ hM ⟨x_cn hK hv.1 h hR, hK.w hv.2.1, hK.w hv.2.2⟩ hp rfl hn hlsz rfl (lv_room hroom) hdg ⟨hcl, hsl⟩) hw hC hnd ha hws hst kk
end XE
/-- the cells of the reference -/
def mW (G : GG) (b : Nat → Nat) (nw rd asd img kpt txt : Nat → Int32) (sz : Int32) (abv blw : Int64) (bds nos fls att bgn tkn : Int32) (wrd : Int64) (vlu : Int32) (sts bst : Nat → Int32) : va_W :=
  [(b 0, .inr (6, [.ref (b 1), .ref (b 2), .ref (b 3), .ref (b 4), .ref (b 5), .ref (b 6), .int sz, .long abv, .long blw, .int bds, .int nos, .int fls, .int att, .int bgn, .int tkn, .long wrd, .int vlu, .ref (b 7), .ref (b 8)])),
   (b 1, .inl (G.2 0, 255, .inl nw)), (b 2, .inl (G.2 0, 255, .inl rd)), (b 3, .inl (G.2 0, 35, .inl asd)), (b 4, .inl (G.2 0, 510, .inl img)), (b 5, .inl (G.2 2, 2, .inl kpt)), (b 6, .inl (G.2 0, 150, .inl txt)), (b 7, .inl (G.2 0, 6, .inl sts)), (b 8, .inl (G.2 0, 6, .inl bst))]
theorem whJ_lt {t : Nat → Int32} {n k : Nat} (hn : n ≤ 6) : whJ t n k < 6 := by
  by_cases h : whM t n (t k) = -1
  · rw [whJ, h]; decide
  · obtain ⟨j, h1, h2⟩ := whM_or h
    rw [whJ, h2, nI_clamp (by omega)]; omega
theorem gM_out {set : Int32} {t : Nat → Int32} {n : Nat} (hn : n ≤ 6) {i : Nat} (hi : i < 6 ∨ 18 ≤ i) : ∀ k, k ≤ n → gM set (whJ t n) t k i = t i
  | 0, _ => rfl
  | k + 1, h => by
    simp only [gM]
    rw [gS_out (by omega) (whJ_lt hn) hi, gM_out hn hi k (by omega)]
theorem bI_nar (b : Bool) : narrow .boolean (.int (bI b)) = .int (bI b) := by cases b <;> decide
