/-! contracts over whole worlds, for the law -/
def LC {σ : Type} (K : KA) (l : Launch) (G : GG) (y : MethodName) (cc : ByteArray) (maxL : Nat) (ret : Option FieldType) (av : List Value) (bs : List va_W) (o : Option Value) (Fb : σ → List va_W) : Prop :=
  ∃ fr lo : Nat, fr ≤ 100 ∧ lo ≤ 3000 ∧ Met l y [.code y cc maxL ret] (rmx fr lo) (PcK K G av bs.flatten) (QcE G bs.flatten o (fun u => (Fb u).flatten)) 0 0 (va_B bs.flatten)
theorem va_B_mem {w : va_W} {q : Nat} : va_B w q ↔ ∃ e, (q, e) ∈ w := by
  constructor
  · rintro ⟨k, e, h⟩
    exact ⟨e, List.mem_of_getElem? h⟩
  · rintro ⟨e, h⟩
    obtain ⟨k, hk⟩ := List.getElem?_of_mem h
    exact ⟨k, e, hk⟩
theorem LC.of {σ : Type} {K : KA} {l : Launch} {G : GG} {y : MethodName} {cc : ByteArray} {maxL fr lo : Nat} {ret : Option FieldType} {av : List Value} {bs wb : List va_W} {o : Option Value} {Fb : σ → List va_W} {is : List Nat} {Pc0 : Array Value → State → Prop} (h : Met l y [.code y cc maxL ret] (rmx fr lo) Pc0 (QcE G wb.flatten o (fun u => (Fb u).flatten)) 0 0 (va_B wb.flatten)) (hf : fr ≤ 100) (hlo : lo ≤ 3000)
    (hC : is.map (fun i => bs[i]?) = wb.map some) (hnd : va_nd is = true) (ha : ∀ u, (Fb u).map (fun B => B.map (·.1)) = wb.map (fun B => B.map (·.1)))
    (pre : ∀ (args : Array Value) (s : State), PcK K G av bs.flatten args s → PcT G av wb.flatten args s → (∀ q, va_B wb.flatten q → va_B bs.flatten q) → Pc0 args s) : LC K l G y cc maxL ret av bs o (fun u => setB bs is (Fb u)) := by
  refine ⟨fr, lo, hf, hlo, ?_⟩
  intro p e h1 h2 h3 s m args below h4 h5 h6 h7
  obtain ⟨⟨hargs, hK, hP, hD⟩, hS⟩ := h6
  have hw : Bd G (fun _ => True) s s.heap [] bs := ⟨hP, hD, va_S.rf⟩
  have incl : ∀ q, va_B wb.flatten q → va_B bs.flatten q := fun q hq => by
    obtain ⟨e', h⟩ := va_B_mem.mp hq
    exact va_B_mem.mpr ⟨e', bd_in hw hC h⟩
  have hpre : PcT G av wb.flatten args s := ⟨hargs, hK, va_P_mem.mpr (fun c hc => va_P_mem.mp hP c (bd_in hw hC hc)), pw_D (pw_pick hD is wb hC hnd)⟩
  obtain ⟨k, oc, a1, a2, a3, ⟨⟨b1, u, b2⟩, b3⟩, L, b4, b5⟩ := h p e h1 h2 h3 s m args below h4 h5 (pre args s ⟨⟨hargs, hK, hP, hD⟩, hS⟩ hpre incl) h7
  exact ⟨k, oc, a1, a2, a3, ⟨⟨b1, u, (Bd.back hw is hC hnd (ha u) b3.2 b2 (locs1 := []) ⟨b3.1, fun q _ z => absurd trivial z, fun _ _ => trivial⟩).1⟩, b3.1, fun q g1 g2 => b3.2 q g1 (fun z => g2 (incl q z))⟩, L, b4, fun q hq => incl _ (b5 q hq)⟩
theorem LC.ofE {σ : Type} {K : KA} {l : Launch} {G : GG} {y : MethodName} {cc : ByteArray} {maxL fr lo : Nat} {ret : Option FieldType} {av : List Value} {bs wb : List va_W} {o : Option Value} {w : va_W} {F : σ → va_W} {Fb : σ → List va_W} {bs' : σ → List va_W} (is : List Nat) (h : CE l G y cc maxL ret fr lo av w o F) (hf : fr ≤ 100) (hlo : lo ≤ 3000) (hwb : wb.flatten = w) (hF : ∀ u, (Fb u).flatten = F u) (hC : is.map (fun i => bs[i]?) = wb.map some) (hnd : va_nd is = true) (ha : ∀ u, (Fb u).map (fun B => B.map (·.1)) = wb.map (fun B => B.map (·.1))) (hbs : ∀ u, setB bs is (Fb u) = bs' u) : LC K l G y cc maxL ret av bs o bs' := by
  obtain rfl : (fun u => setB bs is (Fb u)) = bs' := funext hbs
  obtain rfl : (fun u => (Fb u).flatten) = F := funext hF
  subst hwb
  exact LC.of h hf hlo hC hnd ha (fun _ _ _ h _ => h)
theorem LC.ofT {K : KA} {l : Launch} {G : GG} {y : MethodName} {cc : ByteArray} {maxL fr lo : Nat} {ret : Option FieldType} {av : List Value} {bs wb wb' bs' : List va_W} {o : Option Value} {w w' : va_W} (is : List Nat) (h : CT l G y cc maxL ret fr lo av w o w') (hf : fr ≤ 100) (hlo : lo ≤ 3000) (hwb : wb.flatten = w) (hwb' : wb'.flatten = w') (hC : is.map (fun i => bs[i]?) = wb.map some) (hnd : va_nd is = true) (ha : wb'.map (fun B => B.map (·.1)) = wb.map (fun B => B.map (·.1))) (hbs : setB bs is wb' = bs') : LC K l G y cc maxL ret av bs o (fun _ : Unit => bs') :=
  LC.ofE (F := fun _ : Unit => w') (Fb := fun _ => wb') is (CT.toE () h rfl) hf hlo hwb (fun _ => hwb') hC hnd (fun _ => ha) (fun _ => hbs)
theorem LC.ofK {K : KA} {l : Launch} {G : GG} {y : MethodName} {cc : ByteArray} {maxL fr lo : Nat} {ret : Option FieldType} {av : List Value} {bs wb wb' bs' : List va_W} {o : Option Value} {w w' : va_W} (is : List Nat) (h : CK K l G y cc maxL ret fr lo av w o w') (hf : fr ≤ 100) (hlo : lo ≤ 3000) (hwb : wb.flatten = w) (hwb' : wb'.flatten = w') (hC : is.map (fun i => bs[i]?) = wb.map some) (hnd : va_nd is = true) (ha : wb'.map (fun B => B.map (·.1)) = wb.map (fun B => B.map (·.1))) (hbs : setB bs is wb' = bs') : LC K l G y cc maxL ret av bs o (fun _ : Unit => bs') := by
  subst hbs; subst hwb; subst hwb'
  refine LC.of (Fb := fun _ : Unit => wb') (Pc0 := PcK K G av wb.flatten) ?_ hf hlo hC hnd (fun _ => ha) (fun args s h1 h2 h3 => ⟨h2, SK.to (U := s) h1.2 (fun _ _ _ => rfl) (State.WarmedH.refl s) h3⟩)
  intro p e h1 h2 h3 s m args below h4 h5 h6 h7
  obtain ⟨k, oc, a1, a2, a3, ⟨⟨b1, b2⟩, b3⟩, b4⟩ := h p e h1 h2 h3 s m args below h4 h5 h6 h7
  exact ⟨k, oc, a1, a2, a3, ⟨⟨b1, (), b2⟩, b3⟩, b4⟩
/-- more states at the end than need be -/
theorem LC.map {σ τ : Type} {K : KA} {l : Launch} {G : GG} {y : MethodName} {cc : ByteArray} {maxL : Nat} {ret : Option FieldType} {av : List Value} {bs : List va_W} {o : Option Value} {Fb : σ → List va_W} {Fc : τ → List va_W} (h : LC K l G y cc maxL ret av bs o Fb) (g : ∀ u, ∃ v, Fc v = Fb u) : LC K l G y cc maxL ret av bs o Fc := by
  obtain ⟨fr, lo, hf, hlo, h⟩ := h
  refine ⟨fr, lo, hf, hlo, ?_⟩
  intro p e h1 h2 h3 s m args below h4 h5 h6 h7
  obtain ⟨k, oc, a1, a2, a3, ⟨⟨b1, u, b2⟩, b3⟩, b4⟩ := h p e h1 h2 h3 s m args below h4 h5 h6 h7
  obtain ⟨v, hv⟩ := g u
  exact ⟨k, oc, a1, a2, a3, ⟨⟨b1, v, by show va_P G.1 cls (Fc v).flatten _; rw [hv]; exact b2⟩, b3⟩, b4⟩
section XL
variable {K : KA} {p : Program} {l : Launch} {e : Env} {R : Room} {s : State} {m : MethodId} {args : Array Value} {below : List Frame} {meth : Method} {c : Code} {H : Heap} {locs : List Loc} {cells slots : Nat} {Q : State → Prop}
variable {G : GG} {A : Nat → Prop} {bs wb : List va_W} {B : va_W} {cc bytes : ByteArray} {nL maxL : Nat} {ret ret' : Option FieldType} {own : String} {pc index : Nat} {ls : Array Slot} {rest st0 st1 As : List Value} {b : Nat} {y : MethodName} {o : Option Value}
/-- the law's call -/
theorem lc_callV {σ : Type} {Fb : σ → List va_W} {is : List Nat} {n ci : Nat} {fs : List Value} {q : vw_C} (E : Ex G p s m meth c cc nL ret own) (hS : SK K A s s.heap) (hM : LC K l G y bytes maxL ret' (.ref b :: As) wb o Fb) (hv : VW own index y bytes maxL ret' n) (hw : Bd G A s H locs bs) (is0 : List Nat) (his : is0 = is) (i0 j0 : Nat) (hi0 : bs[i0]? = some B) (hq : B[j0]? = some (b, .inr (ci, fs))) (hc : cls[ci]? = some q) (hqc : q.1 = y.cls) (hC : is.map (fun i => bs[i]?) = wb.map some) (hnd : va_nd is = true) (ha : ∀ u, (Fb u).map (fun B => B.map (·.1)) = wb.map (fun B => B.map (·.1))) (hlsz : ls.size = nL)
    (hn : As.length = n) (hst0 : st0 = As.reverse ++ .ref b :: rest) (hroom : (rest.map fun v => v.category).sum ≤ 8) (hR : 101 ≤ R.frames ∧ 8 + (maxL + 11) + 3000 ≤ R.locals) (hcl : cells ≤ R.cells) (hsl : slots ≤ R.slots) (hdg : decode cc pc = .ok (.invokevirtual index, 3)) {bs' : σ → List va_W} (hws : ∀ u, setB bs is (Fb u) = bs' u) (hst : o.toList ++ rest = st1)
    (kk : ∀ (u : σ) (H1 : Heap) (locs1 : List Loc), Bd G A s H1 locs1 (bs' u) → W p l e R s m args below meth c H1 locs1 cells slots Q (F0 m (pc + 3) ls st1)) : W p l e R s m args below meth c H locs cells slots Q (F0 m pc ls st0) := by
  obtain ⟨hx, hb, hml, hown, hr, hlk, hK⟩ := E
  obtain ⟨q0, h1, -⟩ := flat_at hi0 hq
  have hrc := va_recv hK.1 hw.1 hc h1
  rw [hqc] at hrc
  obtain ⟨fr, lo, hf, hlo, hM⟩ := hM
  have hR' : fr + 1 ≤ R.frames ∧ 8 + (maxL + 11) + lo ≤ R.locals := ⟨by omega, by omega⟩
  have hp : PreV s H y.cls b (PcK K G (.ref b :: As) wb.flatten) As := ⟨PcK.blind, hrc, bk_pre hK hS hw hC hnd rfl _⟩
  have hts : ∀ w ∈ ([] : List Cond), w.before args s = true := fun _ h => absurd h List.not_mem_nil
  subst hst0
  rcases hv.1.1 with h | ⟨host, h⟩
  · exact b_goesE (va_runV (Ts := []) ⟨hx, hb, hml, hown, hts⟩ hM ⟨x_cb hK hv.1 h hR', hK.w hv.2.1, hK.w hv.2.2⟩ hp rfl hn hlsz rfl (lv_room hroom) hdg ⟨hcl, hsl⟩) hw hC hnd rfl (fun _ => rfl) ha hws hst kk
  · exact b_goesE (va_runVN (Ts := []) ⟨hx, hb, hml, hown, hts⟩ hM ⟨x_cn hK hv.1 h hR', hK.w hv.2.1, hK.w hv.2.2⟩ hp rfl hn hlsz rfl (lv_room hroom) hdg ⟨hcl, hsl⟩) hw hC hnd rfl (fun _ => rfl) ha hws hst kk
end XL
/-! the reference's world as one state; the law's steps -/
abbrev YS : Type := (Nat → Int32) × (Nat → Int32) × (Nat → Int32) × (Nat → Int32) × (Nat → Int32) × (Nat → Int32) × Int32 × Int64 × Int64 × Int32 × Int32 × Int32 × Int32 × Int32 × Int32 × Int64 × Int32 × (Nat → Int32) × (Nat → Int32)
def mY (G : GG) (b : Nat → Nat) (Y : YS) : va_W := mW G b Y.1 Y.2.1 Y.2.2.1 Y.2.2.2.1 Y.2.2.2.2.1 Y.2.2.2.2.2.1 Y.2.2.2.2.2.2.1 Y.2.2.2.2.2.2.2.1 Y.2.2.2.2.2.2.2.2.1 Y.2.2.2.2.2.2.2.2.2.1 Y.2.2.2.2.2.2.2.2.2.2.1 Y.2.2.2.2.2.2.2.2.2.2.2.1 Y.2.2.2.2.2.2.2.2.2.2.2.2.1 Y.2.2.2.2.2.2.2.2.2.2.2.2.2.1 Y.2.2.2.2.2.2.2.2.2.2.2.2.2.2.1 Y.2.2.2.2.2.2.2.2.2.2.2.2.2.2.2.1 Y.2.2.2.2.2.2.2.2.2.2.2.2.2.2.2.2.1 Y.2.2.2.2.2.2.2.2.2.2.2.2.2.2.2.2.2.1 Y.2.2.2.2.2.2.2.2.2.2.2.2.2.2.2.2.2.2
def Y0_ : YS := (upd bg0 20 0, z0, z0, z0, z0, z0, 0, 0, 1, 0, 0, 0, 0, 0, 0, 0, 0, z0, z0)
def is19 : List Nat := [0, 1, 2, 3, 4, 5, 6, 7, 8, 9, 10, 11, 12, 13, 14, 15, 16, 17, 18]
theorem xB_adr (G : GG) (x : Nat) (ad : Ad) (X X' : XS) : (xB G x ad X').map (fun B => B.map (·.1)) = (xB G x ad X).map (fun B => B.map (·.1)) := rfl
theorem set19 (b0 b1 b2 b3 b4 b5 b6 b7 b8 b9 b10 b11 b12 b13 b14 b15 b16 b17 b18 c0 c1 c2 c3 c4 c5 c6 c7 c8 c9 c10 c11 c12 c13 c14 c15 c16 c17 c18 B : va_W) : setB ([b0, b1, b2, b3, b4, b5, b6, b7, b8, b9, b10, b11, b12, b13, b14, b15, b16, b17, b18] ++ [B]) is19 [c0, c1, c2, c3, c4, c5, c6, c7, c8, c9, c10, c11, c12, c13, c14, c15, c16, c17, c18] = [c0, c1, c2, c3, c4, c5, c6, c7, c8, c9, c10, c11, c12, c13, c14, c15, c16, c17, c18] ++ [B] := by
  simp only [setB, is19, List.cons_append, List.nil_append, List.set_cons_zero, List.set_cons_succ]
theorem xB_set (G : GG) (x : Nat) (ad : Ad) (X X' : XS) (B : va_W) : setB (xB G x ad X ++ [B]) is19 (xB G x ad X') = xB G x ad X' ++ [B] := set19 _ _ _ _ _ _ _ _ _ _ _ _ _ _ _ _ _ _ _ _ _ _ _ _ _ _ _ _ _ _ _ _ _ _ _ _ _ _ B
theorem xB_pick (G : GG) (x : Nat) (ad : Ad) (X : XS) (B : va_W) : is19.map (fun i => (xB G x ad X ++ [B])[i]?) = (xB G x ad X).map some := rfl
theorem mY_adr (G : GG) (b : Nat → Nat) (Y Y' : YS) : [mY G b Y'].map (fun B => B.map (·.1)) = [mY G b Y].map (fun B => B.map (·.1)) := rfl
theorem mY_set (G : GG) (x : Nat) (ad : Ad) (X : XS) (B B' : va_W) : setB (xB G x ad X ++ [B]) [19] [B'] = xB G x ad X ++ [B'] := rfl
theorem mY_pick (G : GG) (x : Nat) (ad : Ad) (X : XS) (B : va_W) : [19].map (fun i => (xB G x ad X ++ [B])[i]?) = [B].map some := rfl
/-- a call of both with an int for an answer, or a long -/
def OPi (Rel : XS → YS → Prop) (K : KA) (l : Launch) (G : GG) (ax : Nat) (ad : Ad) (am : Nat → Nat) (yx : MethodName) (cx : ByteArray) (mx : Nat) (ym : MethodName) (cm : ByteArray) (mm : Nat) (vs : List Value) (X : XS) (Y : YS) : Prop :=
  ∃ (r : Int32) (σ τ : Type) (Fx : σ → XS) (Fy : τ → YS), LC K l G yx cx mx (some .int) (.ref ax :: vs) (xB G ax ad X) (some (.int r)) (fun u => xB G ax ad (Fx u)) ∧ LC K l G ym cm mm (some .int) (.ref (am 0) :: vs) [mY G am Y] (some (.int r)) (fun v => [mY G am (Fy v)]) ∧ ∀ u v, Rel (Fx u) (Fy v)
def OPl (Rel : XS → YS → Prop) (K : KA) (l : Launch) (G : GG) (ax : Nat) (ad : Ad) (am : Nat → Nat) (yx : MethodName) (cx : ByteArray) (mx : Nat) (ym : MethodName) (cm : ByteArray) (mm : Nat) (vs : List Value) (X : XS) (Y : YS) : Prop :=
  ∃ (r : Int64) (σ τ : Type) (Fx : σ → XS) (Fy : τ → YS), LC K l G yx cx mx (some .long) (.ref ax :: vs) (xB G ax ad X) (some (.long r)) (fun u => xB G ax ad (Fx u)) ∧ LC K l G ym cm mm (some .long) (.ref (am 0) :: vs) [mY G am Y] (some (.long r)) (fun v => [mY G am (Fy v)]) ∧ ∀ u v, Rel (Fx u) (Fy v)
theorem law_end {i L : Nat} (hL : L ≤ 512) (hi : i ≤ 600) (h : ¬ nI L - 8 < nI i) : i + 8 ≤ L := by
  by_cases h8 : 8 ≤ L
  · rw [show (8 : Int32) = nI 8 from rfl, pk_sub h8] at h
    have h2 : ¬ L - 8 < i := fun q => h ((nI_ltI (by omega) (by omega)).mpr q)
    omega
  · exfalso
    have h1 : ∀ L, L < 8 → nI L - 8 < 0 := by decide +kernel
    exact h (Int32.lt_of_lt_of_le (h1 L (by omega)) (Int32.not_lt.mp (nI_pos (by omega))))
section XS_
variable {p : Program} {l : Launch} {e : Env} {R : Room} {s : State} {m : MethodId} {args : Array Value} {below : List Frame} {meth : Method} {c : Code} {H : Heap} {locs : List Loc} {cells slots : Nat} {Q : State → Prop}
variable {G : GG} {A : Nat → Prop} {bs : List va_W} {cc : ByteArray} {nL : Nat} {ret : Option FieldType} {own : String} {pc : Nat} {ls : Array Slot} {rest : List Value}
theorem l_sld (E : Ex G p s m meth c cc nL ret own) (hw : Bd G A s H locs bs) {b L : Nat} {xs : Nat → Int32} (hX : va_X b L xs s s.heap) (hbl : b < s.heap.size) (hbA : ¬ A b) {x : Int32} (k : Nat) (hx : x = nI k) (hk : k < L) (hL : L ≤ 512) (hdg : decode cc pc = .ok (.iaload, 1))
    (kk : W p l e R s m args below meth c H locs cells slots Q (F0 m (pc + 1) ls (.int (xs k) :: rest))) : W p l e R s m args below meth c H locs cells slots Q (F0 m pc ls (.int x :: .ref b :: rest)) := by
  subst hx
  refine va_sld E.1 E.2.1 hX hbl hbA hw.2.2 (vp_in_nI hk (by omega)) hdg ?_
  rw [nI_clamp (by omega)]
  exact kk
end XS_
