/-! constants that nobody writes: the Strings of BiteChild$Text, String.COMPACT_STRINGS, Preconditions.SIOOBE_FORMATTER; contracts that know them (CK) -/
abbrev KA : Type := (Nat → Nat) × (Nat → Nat) × Option Nat
def kLen : List Nat := [5, 5, 6]
def kByt : List (List Int32) := [[116, 97, 98, 108, 101], [99, 104, 105, 108, 100], [99, 97, 114, 114, 111, 116]]
def SK (K : KA) (A : Nat → Prop) (U : State) (H : Heap) : Prop :=
  vk_S 3 kLen kByt K.1 K.2.1 A U H ∧ va_Z "java/lang/String" "COMPACT_STRINGS" "Z" (.int 1) A U H ∧ va_Z "jdk/internal/util/Preconditions" "SIOOBE_FORMATTER" "Ljava/util/function/BiFunction;" (va_rf K.2.2) A U H ∧ vk_R "BiteChild$Text" 87 "table" (K.1 0) U ∧ vk_R "BiteChild$Text" 93 "child" (K.1 1) U ∧ vk_R "BiteChild$Text" 95 "carrot" (K.1 2) U
theorem SK.to {K : KA} {A B : Nat → Prop} {s U : State} {H : Heap} (h : SK K A s s.heap) (hq : ∀ q : Nat, q < s.heap.size → ¬ A q → H[q]? = s.heap[q]?) (hW : s.WarmedH U.vm) (hAB : ∀ q, B q → A q) : SK K B U H :=
  ⟨vk_S.narrow (vk_S.moved hW.alike (vk_S.kept h.1 hq)) hAB, va_Z.narrow (va_Z.moved hW.alike (va_Z.kept h.2.1 hq)) hAB, va_Z.narrow (va_Z.moved hW.alike (va_Z.kept h.2.2.1 hq)) hAB, vk_R.warm hW h.2.2.2.1, vk_R.warm hW h.2.2.2.2.1, vk_R.warm hW h.2.2.2.2.2⟩
def PcK (K : KA) (G : GG) (av : List Value) (w : va_W) : Array Value → State → Prop := fun v U => PcT G av w v U ∧ SK K (va_B w) U U.heap
theorem PcK.blind {K : KA} {G : GG} {av : List Value} {w : va_W} : FrameBlind (PcK K G av w) := fun a U g mk q => ⟨PcT.blind a U g mk q.1, SK.to (U := U.calling g mk a) q.2 (fun _ _ _ => rfl) (State.WarmedH.refl U) (fun _ h => h)⟩
def CK (K : KA) (l : Launch) (G : GG) (y : MethodName) (cc : ByteArray) (maxL : Nat) (ret : Option FieldType) (fr lo : Nat) (av : List Value) (w : va_W) (o : Option Value) (w' : va_W) : Prop :=
  Met l y [.code y cc maxL ret] (rmx fr lo) (PcK K G av w) (QcT G w o w') 0 0 (va_B w)
theorem CK.mk {K : KA} {l : Launch} {G : GG} {y : MethodName} {cc : ByteArray} {maxL : Nat} {ret : Option FieldType} {fr lo : Nat} {av : List Value} {w : va_W} {o : Option Value} {w' : va_W} {own : String} {la : List (Nat × Value)} (hy : plainName y.cls = true) (ho : y.cls = own) (hn : (lg_sl av).length ≤ maxL) (hla : lv_args 0 av = la)
    (body : ∀ (p : Program) (e : Env) (s : State) (m : MethodId) (args : Array Value) (below : List Frame) (meth : Method) (c : Code) (A : Nat → Prop) (Q : State → Prop), Ex G p s m meth c cc maxL ret own → (∀ q, A q → va_B w q) → Wd G A s s.heap [] w → Rt G s args below w o w' Q → ∀ ls : Array Slot, lv_has ls maxL la → SK K A s s.heap → W p l e (rmx fr lo) s m args below meth c s.heap [] 0 0 Q (F0 m 0 ls [])) : CK K l G y cc maxL ret fr lo av w o w' := by
  refine Met.ofW (cc := cc) (maxL := maxL) (ret := ret) hy rfl ?_
  intro p e s m args below meth c s₁ B hml hv
  obtain ⟨⟨rfl, hK, hP, hD⟩, hS⟩ := hv
  have hl := lv_entry av (n := maxL) hn
  rw [lg_entry_eq]
  subst hla
  exact body p e s m _ below meth c (va_B w) _ ⟨B.exec, B.bytes, hml, ho ▸ findClass_of_methodNamed B.named, B.returns, B.notSynchronized, hK⟩ (fun _ h => h) ⟨hP, ⟨hD.1, fun k q hk => ⟨k, q.2, hk⟩⟩, va_S.rf⟩ (fun _ h => h) _ hl hS
theorem CT.toK {K : KA} {l : Launch} {G : GG} {y : MethodName} {cc : ByteArray} {maxL : Nat} {ret : Option FieldType} {fr lo : Nat} {av : List Value} {w w' : va_W} {o : Option Value} (h : CT l G y cc maxL ret fr lo av w o w') : CK K l G y cc maxL ret fr lo av w o w' := by
  intro p e h1 h2 h3 s m args below h4 h5 h6 h7
  exact h p e h1 h2 h3 s m args below h4 h5 h6.1 h7
theorem CK.conv {K : KA} {l : Launch} {G : GG} {y : MethodName} {cc : ByteArray} {maxL : Nat} {ret : Option FieldType} {fr lo : Nat} {av : List Value} {w w' w2 w2' : va_W} {o : Option Value} (h : CK K l G y cc maxL ret fr lo av w o w') (e1 : w = w2) (e2 : w' = w2') : CK K l G y cc maxL ret fr lo av w2 o w2' := by
  subst e1; subst e2; exact h
section XK
variable {K : KA} {p : Program} {l : Launch} {e : Env} {R : Room} {s : State} {m : MethodId} {args : Array Value} {below : List Frame} {meth : Method} {c : Code} {H : Heap} {locs : List Loc} {cells slots : Nat} {Q : State → Prop}
variable {G : GG} {A : Nat → Prop} {ws ws' w w' : va_W} {cc bytes : ByteArray} {nL maxL : Nat} {ret ret' : Option FieldType} {own : String} {pc index fr lo : Nat} {ls : Array Slot} {rest st0 st1 As : List Value} {b : Nat} {y : MethodName} {o : Option Value}
theorem k_pre {is : List Nat} (hK : KK G s) (hS : SK K A s s.heap) (hw : Wd G A s H locs ws) (hC : is.map (fun i => ws[i]?) = w.map some) (hn : va_nd is = true) (av : List Value) : ∀ U : State, U.heap = H → s.WarmedH U.vm → PcK K G av w av.toArray U := fun U hU hW =>
  ⟨x_pre hK hw hC hn av U hU hW, by
    rw [hU]
    refine SK.to hS hw.2.2.2.1 hW (fun q ⟨k, e', h⟩ => ?_)
    obtain ⟨i, -, h2⟩ := map_at hC h
    exact hw.2.1.2 i _ h2⟩
/-- a call of an instance method, the receiver being somewhere -/
theorem k_callR {is : List Nat} {n : Nat} (E : Ex G p s m meth c cc nL ret own) (hS : SK K A s s.heap) (hM : CK K l G y bytes maxL ret' fr lo (.ref b :: As) w o w') (hv : VW own index y bytes maxL ret' n) (hw : Wd G A s H locs ws) (is0 : List Nat) (his : is0 = is) (hrc : ∃ cell : Cell, H[b]? = some cell ∧ cell.vm.isStatics = false ∧ s.vm.findClass y.cls = some cell.cls) (hC : is.map (fun i => ws[i]?) = w.map some) (hnd : va_nd is = true) (ha : w'.map (·.1) = w.map (·.1)) (hlsz : ls.size = nL)
    (hn : As.length = n) (hst0 : st0 = As.reverse ++ .ref b :: rest) (hroom : (rest.map fun v => v.category).sum ≤ 8) (hR : fr + 1 ≤ R.frames ∧ 8 + (maxL + 11) + lo ≤ R.locals) (hcl : cells ≤ R.cells) (hsl : slots ≤ R.slots) (hdg : decode cc pc = .ok (.invokevirtual index, 3)) (hws : setAll ws is w' = ws') (hst : o.toList ++ rest = st1)
    (kk : ∀ (H1 : Heap) (locs1 : List Loc), Wd G A s H1 locs1 ws' → W p l e R s m args below meth c H1 locs1 cells slots Q (F0 m (pc + 3) ls st1)) : W p l e R s m args below meth c H locs cells slots Q (F0 m pc ls st0) := by
  obtain ⟨hx, hb, hml, hown, hr, hlk, hK⟩ := E
  have hp : PreV s H y.cls b (PcK K G (.ref b :: As) w) As := ⟨PcK.blind, hrc, k_pre hK hS hw hC hnd _⟩
  have hts : ∀ w ∈ ([] : List Cond), w.before args s = true := fun _ h => absurd h List.not_mem_nil
  subst hst0
  rcases hv.1.1 with h | ⟨host, h⟩
  · exact x_goes (va_runV (Ts := []) ⟨hx, hb, hml, hown, hts⟩ hM ⟨x_cb hK hv.1 h hR, hK.w hv.2.1, hK.w hv.2.2⟩ hp rfl hn hlsz rfl (lv_room hroom) hdg ⟨hcl, hsl⟩) hw hC hnd ha hws hst kk
  · exact x_goes (va_runVN (Ts := []) ⟨hx, hb, hml, hown, hts⟩ hM ⟨x_cn hK hv.1 h hR, hK.w hv.2.1, hK.w hv.2.2⟩ hp rfl hn hlsz rfl (lv_room hroom) hdg ⟨hcl, hsl⟩) hw hC hnd ha hws hst kk
theorem k_callV {is : List Nat} {n ci q0 : Nat} {fs : List Value} {q : vw_C} (E : Ex G p s m meth c cc nL ret own) (hS : SK K A s s.heap) (hM : CK K l G y bytes maxL ret' fr lo (.ref b :: As) w o w') (hv : VW own index y bytes maxL ret' n) (hw : Wd G A s H locs ws) (is0 : List Nat) (his : is0 = is) (hq : ws[q0]? = some (b, .inr (ci, fs))) (hc : cls[ci]? = some q) (hqc : q.1 = y.cls) (hC : is.map (fun i => ws[i]?) = w.map some) (hnd : va_nd is = true) (ha : w'.map (·.1) = w.map (·.1)) (hlsz : ls.size = nL)
    (hn : As.length = n) (hst0 : st0 = As.reverse ++ .ref b :: rest) (hroom : (rest.map fun v => v.category).sum ≤ 8) (hR : fr + 1 ≤ R.frames ∧ 8 + (maxL + 11) + lo ≤ R.locals) (hcl : cells ≤ R.cells) (hsl : slots ≤ R.slots) (hdg : decode cc pc = .ok (.invokevirtual index, 3)) (hws : setAll ws is w' = ws') (hst : o.toList ++ rest = st1)
    (kk : ∀ (H1 : Heap) (locs1 : List Loc), Wd G A s H1 locs1 ws' → W p l e R s m args below meth c H1 locs1 cells slots Q (F0 m (pc + 3) ls st1)) : W p l e R s m args below meth c H locs cells slots Q (F0 m pc ls st0) := by
  have hrc := va_recv E.2.2.2.2.2.2.1 hw.1 hc hq
  rw [hqc] at hrc
  exact k_callR E hS hM hv hw is0 his hrc hC hnd ha hlsz hn hst0 hroom hR hcl hsl hdg hws hst kk
theorem k_callS {is : List Nat} {n : Nat} (E : Ex G p s m meth c cc nL ret own) (hS : SK K A s s.heap) (hM : CK K l G y bytes maxL ret' fr lo As w o w') (hv : SW own index y bytes maxL ret' n) (hw : Wd G A s H locs ws) (is0 : List Nat) (his : is0 = is) (hC : is.map (fun i => ws[i]?) = w.map some) (hnd : va_nd is = true) (ha : w'.map (·.1) = w.map (·.1)) (hlsz : ls.size = nL)
    (hn : As.length = n) (hst0 : st0 = As.reverse ++ rest) (hroom : (rest.map fun v => v.category).sum ≤ 8) (hR : fr + 1 ≤ R.frames ∧ 8 + (maxL + 11) + lo ≤ R.locals) (hcl : cells ≤ R.cells) (hsl : slots ≤ R.slots) (hdg : decode cc pc = .ok (.invokestatic index, 3)) (hws : setAll ws is w' = ws') (hst : o.toList ++ rest = st1)
    (kk : ∀ (H1 : Heap) (locs1 : List Loc), Wd G A s H1 locs1 ws' → W p l e R s m args below meth c H1 locs1 cells slots Q (F0 m (pc + 3) ls st1)) : W p l e R s m args below meth c H locs cells slots Q (F0 m pc ls st0) := by
  obtain ⟨hx, hb, hml, hown, hr, hlk, hK⟩ := E
  have hp : PreS s H (PcK K G As w) As := ⟨PcK.blind, k_pre hK hS hw hC hnd _⟩
  have hts : ∀ w ∈ ([] : List Cond), w.before args s = true := fun _ h => absurd h List.not_mem_nil
  subst hst0
  rcases hv.1.1 with h | ⟨host, h⟩
  · exact x_goes (va_runS (Ts := []) ⟨hx, hb, hml, hown, hts⟩ hM ⟨x_cb hK hv.1 h hR, hK.w hv.2⟩ hp rfl hn hlsz rfl (lv_room hroom) hdg ⟨hcl, hsl⟩) hw hC hnd ha hws hst kk
  · exact x_goes (va_runSN (Ts := []) ⟨hx, hb, hml, hown, hts⟩ hM ⟨x_cn hK hv.1 h hR, hK.w hv.2, trivial⟩ hp rfl hn hlsz rfl (lv_room hroom) hdg ⟨hcl, hsl⟩) hw hC hnd ha hws hst kk
/-- a String constant's parts -/
theorem k_recv {i : Nat} (hS : SK K A s s.heap) (hi : i < 3) (hw : Wd G A s H locs ws) : ∃ cell : Cell, H[K.1 i]? = some cell ∧ cell.vm.isStatics = false ∧ s.vm.findClass "java/lang/String" = some cell.cls := vk_recv hS.1 hi hw.2.2
theorem k_value {i : Nat} (E : Ex G p s m meth c cc nL ret RJ0) (hS : SK K A s s.heap) (hi : i < 3) (hw : Wd G A s H locs ws) (hdg : decode cc pc = .ok (.getfield 9, 3))
    (kk : W p l e R s m args below meth c H locs cells slots Q (F0 m (pc + 3) ls (.ref (K.2.1 i) :: rest))) : W p l e R s m args below meth c H locs cells slots Q (F0 m pc ls (.ref (K.1 i) :: rest)) :=
  vk_getf E.1 E.2.1 (hS.1.1 i hi).2.2.1 hw.2.2 E.2.2.2.1 (E.2.2.2.2.2.2.w (w := .fieldLink "java/lang/String" 9 "java/lang/String" "value" "[B") ⟨inT5 2 rfl, Or.inl rfl⟩) (fun _ h => h) hdg kk
theorem k_coder {i : Nat} (E : Ex G p s m meth c cc nL ret RJ0) (hS : SK K A s s.heap) (hi : i < 3) (hw : Wd G A s H locs ws) (hdg : decode cc pc = .ok (.getfield 15, 3))
    (kk : W p l e R s m args below meth c H locs cells slots Q (F0 m (pc + 3) ls (.int 0 :: rest))) : W p l e R s m args below meth c H locs cells slots Q (F0 m pc ls (.ref (K.1 i) :: rest)) :=
  vk_getf E.1 E.2.1 (hS.1.1 i hi).2.1 hw.2.2 E.2.2.2.1 (E.2.2.2.2.2.2.w (w := .fieldLink "java/lang/String" 15 "java/lang/String" "coder" "B") ⟨inT5 3 rfl, Or.inl rfl⟩) (fun _ h => h) hdg kk
theorem k_compact (E : Ex G p s m meth c cc nL ret RJ0) (hS : SK K A s s.heap) (hw : Wd G A s H locs ws) (hdg : decode cc pc = .ok (.getstatic 38, 3))
    (kk : W p l e R s m args below meth c H locs cells slots Q (F0 m (pc + 3) ls (.int 1 :: rest))) : W p l e R s m args below meth c H locs cells slots Q (F0 m pc ls rest) :=
  va_gets E.1 E.2.1 hS.2.1 hw.2.2 E.2.2.2.1 (E.2.2.2.2.2.2.w (w := .fieldLink "java/lang/String" 38 "java/lang/String" "COMPACT_STRINGS" "Z") ⟨inT2 37 rfl, Or.inl rfl⟩) (fun _ h => h) hdg kk
theorem k_formatter (E : Ex G p s m meth c cc nL ret RJ0) (hS : SK K A s s.heap) (hw : Wd G A s H locs ws) (hdg : decode cc pc = .ok (.getstatic 1053, 3))
    (kk : W p l e R s m args below meth c H locs cells slots Q (F0 m (pc + 3) ls (va_rf K.2.2 :: rest))) : W p l e R s m args below meth c H locs cells slots Q (F0 m pc ls rest) :=
  va_gets E.1 E.2.1 hS.2.2.1 hw.2.2 E.2.2.2.1 (E.2.2.2.2.2.2.w (w := .fieldLink "java/lang/String" 1053 "jdk/internal/util/Preconditions" "SIOOBE_FORMATTER" "Ljava/util/function/BiFunction;") ⟨inT2 53 rfl, Or.inl rfl⟩) (fun _ h => h) hdg kk
theorem k_alen {i n : Nat} (E : Ex G p s m meth c cc nL ret own) (hS : SK K A s s.heap) (hi : i < 3) (hw : Wd G A s H locs ws) (hn : kLen.getD i 0 = n) (hdg : decode cc pc = .ok (.arraylength, 1))
    (kk : W p l e R s m args below meth c H locs cells slots Q (F0 m (pc + 1) ls (.int (nI n) :: rest))) : W p l e R s m args below meth c H locs cells slots Q (F0 m pc ls (.ref (K.2.1 i) :: rest)) :=
  va_tlen (v := nI n) E.1 E.2.1 (hS.1.1 i hi).2.2.2 hw.2.2 (by rw [hn]; rfl) hdg kk
theorem k_bald {i n k : Nat} {v : Int32} (E : Ex G p s m meth c cc nL ret own) (hS : SK K A s s.heap) (hi : i < 3) (hw : Wd G A s H locs ws) (hn : kLen.getD i 0 = n) (hk : k < n) (hn2 : n < 2 ^ 31) (hv : (kByt.getD i []).getD k 0 = v) (hdg : decode cc pc = .ok (.baload, 1))
    (kk : W p l e R s m args below meth c H locs cells slots Q (F0 m (pc + 1) ls (.int v :: rest))) : W p l e R s m args below meth c H locs cells slots Q (F0 m pc ls (.int (nI k) :: .ref (K.2.1 i) :: rest)) :=
  va_tb E.1 E.2.1 (hS.1.1 i hi).2.2.2 hw.2.2 (by rw [hn]; exact vp_in_nI hk hn2) (by rw [nI_clamp (by omega), hv]) hdg kk
end XK
/-! the String methods -/
theorem jw_97 : VW RX4 97 yJ0_length_8abf5 cJ0_length_8abf5 1 (some .int) 0 := ⟨⟨Or.inl ⟨inT2 29 rfl, Or.inl rfl⟩, ⟨inT1 9 rfl, Or.inl rfl⟩, ⟨⟨inT2 32 rfl, Or.inl rfl⟩, rfl⟩, by decide +kernel⟩, ⟨inT2 30 rfl, Or.inl rfl⟩, ⟨inT2 31 rfl, Or.inl rfl⟩⟩
theorem jw_102 : VW RX4 102 yJ0_charAt_5068e cJ0_charAt_5068e 2 (some .char) 1 := ⟨⟨Or.inl ⟨inT2 39 rfl, Or.inl rfl⟩, ⟨inT1 9 rfl, Or.inl rfl⟩, ⟨⟨inT2 42 rfl, Or.inl rfl⟩, rfl⟩, by decide +kernel⟩, ⟨inT2 40 rfl, Or.inl rfl⟩, ⟨inT2 41 rfl, Or.inl rfl⟩⟩
theorem jw_335 : VW RJ0 335 yJ0_coder_7d493 cJ0_coder_7d493 1 (some .byte) 0 := ⟨⟨Or.inl ⟨inT2 33 rfl, Or.inl rfl⟩, ⟨inT1 9 rfl, Or.inl rfl⟩, ⟨⟨inT2 36 rfl, Or.inl rfl⟩, rfl⟩, by decide +kernel⟩, ⟨inT2 34 rfl, Or.inl rfl⟩, ⟨inT2 35 rfl, Or.inl rfl⟩⟩
theorem jw_492 : VW RJ0 492 yJ0_isLatin1_aae02 cJ0_isLatin1_aae02 1 (some .boolean) 0 := ⟨⟨Or.inl ⟨inT2 43 rfl, Or.inl rfl⟩, ⟨inT1 9 rfl, Or.inl rfl⟩, ⟨⟨inT2 46 rfl, Or.inl rfl⟩, rfl⟩, by decide +kernel⟩, ⟨inT2 44 rfl, Or.inl rfl⟩, ⟨inT2 45 rfl, Or.inl rfl⟩⟩
theorem jw_495 : SW RJ0 495 yJ1_charAt_3b067 cJ1_charAt_3b067 2 (some .char) 2 := ⟨⟨Or.inl ⟨inT2 47 rfl, Or.inl rfl⟩, ⟨inT1 10 rfl, Or.inl rfl⟩, ⟨⟨inT2 49 rfl, Or.inl rfl⟩, rfl⟩, by decide +kernel⟩, ⟨inT2 48 rfl, Or.inl rfl⟩⟩
theorem jw_9 : SW RJ1 9 yJ0_checkIndex_df160 cJ0_checkIndex_df160 2 none 2 := ⟨⟨Or.inl ⟨inT2 50 rfl, Or.inl rfl⟩, ⟨inT1 9 rfl, Or.inl rfl⟩, ⟨⟨inT2 52 rfl, Or.inl rfl⟩, rfl⟩, by decide +kernel⟩, ⟨inT2 51 rfl, Or.inl rfl⟩⟩
theorem jw_1059 : SW RJ0 1059 yJ3_checkIndex_8e157 cJ3_checkIndex_8e157 3 (some .int) 3 := ⟨⟨Or.inl ⟨inT2 55 rfl, Or.inl rfl⟩, ⟨inT1 11 rfl, Or.inl rfl⟩, ⟨⟨inT2 57 rfl, Or.inl rfl⟩, rfl⟩, by decide +kernel⟩, ⟨inT2 56 rfl, Or.inl rfl⟩⟩
set_option maxRecDepth 100000 in
theorem c_J3 (l : Launch) (G : GG) (k n : Nat) (q : Option Nat) (hk : k < n) (hn : n < 100) : CT l G yJ3_checkIndex_8e157 cJ3_checkIndex_8e157 3 (some .int) 0 0 [.int (nI k), .int (nI n), va_rf q] [] (some (.int (nI k))) [] := by
  refine CT.mk (own := RJ3) (la := [(0, .int (nI k)), (1, .int (nI n)), (2, va_rf q)]) (by decide) rfl (by cases q <;> exact Nat.le_of_ble_eq_true rfl) (by cases q <;> rfl) ?_
  intro p e s m args below meth c A Q E hA hw rt ls hl
  have hx := E.1
  have hb := E.2.1
  refine lv_iload_n hx hb dJ3_checkIndex_8e157_0 rfl (lv_at hl 0 rfl) ?_
  refine lv_if_lt (tgt := 9) hx hb dJ3_checkIndex_8e157_1 rfl (fun h1 => ?_) (fun h1 => ?_)
  · exact absurd h1 (nI_pos (by omega))
  refine lv_iload_n hx hb dJ3_checkIndex_8e157_4 rfl (lv_at hl 0 rfl) ?_
  refine lv_iload_n hx hb dJ3_checkIndex_8e157_5 rfl (lv_at hl 1 rfl) ?_
  refine lv_icmp_lt (tgt := 16) hx hb dJ3_checkIndex_8e157_6 rfl (fun h1 => ?_) (fun h1 => ?_)
  · refine lv_iload_n hx hb dJ3_checkIndex_8e157_16 rfl (lv_at hl 0 rfl) ?_
    exact x_iret E hA rt hw dJ3_checkIndex_8e157_17 rfl rfl
  · exact absurd ((cv_lt (a := k) (b := n) rfl rfl (by omega) (by omega)).mpr hk) h1
set_option maxRecDepth 100000 in
theorem c_J0ci (K : KA) (l : Launch) (G : GG) (k n : Nat) (hk : k < n) (hn : n < 100) : CK K l G yJ0_checkIndex_df160 cJ0_checkIndex_df160 2 none 1 22 [.int (nI k), .int (nI n)] [] none [] := by
  refine CK.mk (own := RJ0) (la := [(0, .int (nI k)), (1, .int (nI n))]) (by decide) rfl (Nat.le_of_ble_eq_true rfl) rfl ?_
  intro p e s m args below meth c A Q E hA hw rt ls hl hS
  have hx := E.1
  have hb := E.2.1
  refine lv_iload_n hx hb dJ0_checkIndex_df160_0 rfl (lv_at hl 0 rfl) ?_
  refine lv_iload_n hx hb dJ0_checkIndex_df160_1 rfl (lv_at hl 1 rfl) ?_
  refine k_formatter E hS hw dJ0_checkIndex_df160_2 ?_
  refine x_callS (is := []) (As := [.int (nI k), .int (nI n), va_rf K.2.2]) (rest := []) (st1 := [.int (nI k)]) (ws' := []) E (c_J3 l G k n K.2.2 hk hn) jw_1059 hw [] rfl rfl rfl rfl hl.1 rfl rfl (Nat.le_of_ble_eq_true rfl) ⟨Nat.le_of_ble_eq_true rfl, Nat.le_of_ble_eq_true rfl⟩ (Nat.zero_le _) (Nat.zero_le _) dJ0_checkIndex_df160_5 rfl rfl (fun H locs hw => ?_)
  refine lv_pop hx hb dJ0_checkIndex_df160_8 rfl ?_
  exact x_vret E hA rt hw dJ0_checkIndex_df160_9 rfl
theorem byte_char : ∀ i, i < 3 → ∀ k, k < kLen.getD i 0 → (((kByt.getD i []).getD k 0 &&& 255).toUInt32 % 65536).toInt32 = (kByt.getD i []).getD k 0 ∧ narrow .char (.int ((kByt.getD i []).getD k 0)) = .int ((kByt.getD i []).getD k 0) := by decide +kernel
theorem kLen_lt : ∀ i, kLen.getD i 0 < 100 := fun i => by
  rcases i with _ | _ | _ | i <;> first | decide | (show (0 : Nat) < 100; decide)
set_option maxRecDepth 100000 in
theorem c_J1 (K : KA) (l : Launch) (G : GG) (i k : Nat) (hi : i < 3) (hk : k < kLen.getD i 0) : CK K l G yJ1_charAt_3b067 cJ1_charAt_3b067 2 (some .char) 2 43 [.ref (K.2.1 i), .int (nI k)] [] (some (.int ((kByt.getD i []).getD k 0))) [] := by
  refine CK.mk (own := RJ1) (la := [(0, .ref (K.2.1 i)), (1, .int (nI k))]) (by decide) rfl (Nat.le_of_ble_eq_true rfl) rfl ?_
  intro p e s m args below meth c A Q E hA hw rt ls hl hS
  have hx := E.1
  have hb := E.2.1
  refine lv_iload_n hx hb dJ1_charAt_3b067_0 rfl (lv_at hl 1 rfl) ?_
  refine lv_aload_n hx hb dJ1_charAt_3b067_1 rfl (lv_at hl 0 rfl) ?_
  refine k_alen E hS hi hw rfl dJ1_charAt_3b067_2 ?_
  refine k_callS (is := []) (As := [.int (nI k), .int (nI (kLen.getD i 0))]) (rest := []) (st1 := []) (ws' := []) E hS (c_J0ci K l G k (kLen.getD i 0) hk (kLen_lt i)) jw_9 hw [] rfl rfl rfl rfl hl.1 rfl rfl (Nat.le_of_ble_eq_true rfl) ⟨Nat.le_of_ble_eq_true rfl, Nat.le_of_ble_eq_true rfl⟩ (Nat.zero_le _) (Nat.zero_le _) dJ1_charAt_3b067_3 rfl rfl (fun H locs hw => ?_)
  refine lv_aload_n hx hb dJ1_charAt_3b067_6 rfl (lv_at hl 0 rfl) ?_
  refine lv_iload_n hx hb dJ1_charAt_3b067_7 rfl (lv_at hl 1 rfl) ?_
  refine k_bald E hS hi hw rfl hk (Nat.lt_trans (kLen_lt i) (by decide)) rfl dJ1_charAt_3b067_8 ?_
  refine lv_sipush (v := 255) hx hb dJ1_charAt_3b067_9 rfl ?_
  refine lv_iand hx hb dJ1_charAt_3b067_12 ?_
  refine lv_i2c (v := (kByt.getD i []).getD k 0) hx hb dJ1_charAt_3b067_13 (byte_char i hi k hk).1 ?_
  exact x_zret E hA rt hw (byte_char i hi k hk).2 dJ1_charAt_3b067_14 rfl rfl
set_option maxRecDepth 100000 in
theorem c_J0lat (K : KA) (l : Launch) (G : GG) (i : Nat) (hi : i < 3) : CK K l G yJ0_isLatin1_aae02 cJ0_isLatin1_aae02 1 (some .boolean) 0 0 [.ref (K.1 i)] [] (some (.int 1)) [] := by
  refine CK.mk (own := RJ0) (la := [(0, .ref (K.1 i))]) (by decide) rfl (Nat.le_of_ble_eq_true rfl) rfl ?_
  intro p e s m args below meth c A Q E hA hw rt ls hl hS
  have hx := E.1
  have hb := E.2.1
  refine k_compact E hS hw dJ0_isLatin1_aae02_0 ?_
  refine lv_if_eq (tgt := 17) hx hb dJ0_isLatin1_aae02_3 rfl (fun h1 => ?_) (fun _ => ?_)
  · exact absurd h1 (by decide)
  refine lv_aload_n hx hb dJ0_isLatin1_aae02_6 rfl (lv_at hl 0 rfl) ?_
  refine k_coder E hS hi hw dJ0_isLatin1_aae02_7 ?_
  refine lv_if_ne (tgt := 17) hx hb dJ0_isLatin1_aae02_10 rfl (fun h1 => ?_) (fun _ => ?_)
  · exact absurd rfl h1
  refine lv_iconst (v := 1) hx hb dJ0_isLatin1_aae02_13 rfl ?_
  refine lv_goto (tgt := 18) hx hb dJ0_isLatin1_aae02_14 rfl ?_
  exact x_zret E hA rt hw (by decide) dJ0_isLatin1_aae02_18 rfl rfl
set_option maxRecDepth 100000 in
theorem c_J0cod (K : KA) (l : Launch) (G : GG) (i : Nat) (hi : i < 3) : CK K l G yJ0_coder_7d493 cJ0_coder_7d493 1 (some .byte) 0 0 [.ref (K.1 i)] [] (some (.int 0)) [] := by
  refine CK.mk (own := RJ0) (la := [(0, .ref (K.1 i))]) (by decide) rfl (Nat.le_of_ble_eq_true rfl) rfl ?_
  intro p e s m args below meth c A Q E hA hw rt ls hl hS
  have hx := E.1
  have hb := E.2.1
  refine k_compact E hS hw dJ0_coder_7d493_0 ?_
  refine lv_if_eq (tgt := 13) hx hb dJ0_coder_7d493_3 rfl (fun h1 => ?_) (fun _ => ?_)
  · exact absurd h1 (by decide)
  refine lv_aload_n hx hb dJ0_coder_7d493_6 rfl (lv_at hl 0 rfl) ?_
  refine k_coder E hS hi hw dJ0_coder_7d493_7 ?_
  refine lv_goto (tgt := 14) hx hb dJ0_coder_7d493_10 rfl ?_
  exact x_zret E hA rt hw (by decide) dJ0_coder_7d493_14 rfl rfl
theorem kLen_shr : ∀ i, i < 3 → (nI (kLen.getD i 0)) >>> ((0 : Int32) &&& 31) = nI (kLen.getD i 0) := by decide +kernel
set_option maxRecDepth 100000 in
theorem c_J0len (K : KA) (l : Launch) (G : GG) (i : Nat) (hi : i < 3) : CK K l G yJ0_length_8abf5 cJ0_length_8abf5 1 (some .int) 1 20 [.ref (K.1 i)] [] (some (.int (nI (kLen.getD i 0)))) [] := by
  refine CK.mk (own := RJ0) (la := [(0, .ref (K.1 i))]) (by decide) rfl (Nat.le_of_ble_eq_true rfl) rfl ?_
  intro p e s m args below meth c A Q E hA hw rt ls hl hS
  have hx := E.1
  have hb := E.2.1
  refine lv_aload_n hx hb dJ0_length_8abf5_0 rfl (lv_at hl 0 rfl) ?_
  refine k_value E hS hi hw dJ0_length_8abf5_1 ?_
  refine k_alen E hS hi hw rfl dJ0_length_8abf5_4 ?_
  refine lv_aload_n hx hb dJ0_length_8abf5_5 rfl (lv_at hl 0 rfl) ?_
  refine k_callR (is := []) (As := []) (rest := [.int (nI (kLen.getD i 0))]) (st1 := [.int 0, .int (nI (kLen.getD i 0))]) (ws' := []) E hS (c_J0cod K l G i hi) jw_335 hw [] rfl (k_recv hS hi hw) rfl rfl rfl hl.1 rfl rfl (Nat.le_of_ble_eq_true rfl) ⟨Nat.le_of_ble_eq_true rfl, Nat.le_of_ble_eq_true rfl⟩ (Nat.zero_le _) (Nat.zero_le _) dJ0_length_8abf5_6 rfl rfl (fun H locs hw => ?_)
  refine lv_ishr hx hb dJ0_length_8abf5_9 ?_
  exact x_iret E hA rt hw dJ0_length_8abf5_10 (kLen_shr i hi) rfl
set_option maxRecDepth 100000 in
theorem c_J0chr (K : KA) (l : Launch) (G : GG) (i k : Nat) (hi : i < 3) (hk : k < kLen.getD i 0) : CK K l G yJ0_charAt_5068e cJ0_charAt_5068e 2 (some .char) 3 64 [.ref (K.1 i), .int (nI k)] [] (some (.int ((kByt.getD i []).getD k 0))) [] := by
  refine CK.mk (own := RJ0) (la := [(0, .ref (K.1 i)), (1, .int (nI k))]) (by decide) rfl (Nat.le_of_ble_eq_true rfl) rfl ?_
  intro p e s m args below meth c A Q E hA hw rt ls hl hS
  have hx := E.1
  have hb := E.2.1
  refine lv_aload_n hx hb dJ0_charAt_5068e_0 rfl (lv_at hl 0 rfl) ?_
  refine k_callR (is := []) (As := []) (rest := []) (st1 := [.int 1]) (ws' := []) E hS (c_J0lat K l G i hi) jw_492 hw [] rfl (k_recv hS hi hw) rfl rfl rfl hl.1 rfl rfl (Nat.le_of_ble_eq_true rfl) ⟨Nat.le_of_ble_eq_true rfl, Nat.le_of_ble_eq_true rfl⟩ (Nat.zero_le _) (Nat.zero_le _) dJ0_charAt_5068e_1 rfl rfl (fun H locs hw => ?_)
  refine lv_if_eq (tgt := 16) hx hb dJ0_charAt_5068e_4 rfl (fun h1 => ?_) (fun _ => ?_)
  · exact absurd h1 (by decide)
  refine lv_aload_n hx hb dJ0_charAt_5068e_7 rfl (lv_at hl 0 rfl) ?_
  refine k_value E hS hi hw dJ0_charAt_5068e_8 ?_
  refine lv_iload_n hx hb dJ0_charAt_5068e_11 rfl (lv_at hl 1 rfl) ?_
  refine k_callS (is := []) (As := [.ref (K.2.1 i), .int (nI k)]) (rest := []) (st1 := [.int ((kByt.getD i []).getD k 0)]) (ws' := []) E hS (c_J1 K l G i k hi hk) jw_495 hw [] rfl rfl rfl rfl hl.1 rfl rfl (Nat.le_of_ble_eq_true rfl) ⟨Nat.le_of_ble_eq_true rfl, Nat.le_of_ble_eq_true rfl⟩ (Nat.zero_le _) (Nat.zero_le _) dJ0_charAt_5068e_12 rfl rfl (fun H locs hw => ?_)
  exact x_zret E hA rt hw (byte_char i hi k hk).2 dJ0_charAt_5068e_15 rfl rfl
