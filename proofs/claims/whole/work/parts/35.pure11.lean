/-! seating, weeks, digest -/
abbrev Ss : Type := Int32 × Int32 × (Nat → Int32) × (Nat → Int32)
def fold8 (g : Nat → Ss → Ss) : Nat → Ss → Ss
  | 0, x => x
  | q + 1, x => g q (fold8 g q x)
def srC (wo la : Int32) (all : Nat) (ki wd hu bt : Nat → Int32) : Nat → Nat → Int32 → (Nat → Int32) → (Nat → Int32) → Ss
  | 0, k, few, se, sg => (few, nI k, se, sg)
  | d + 1, k, few, se, sg =>
    if few ≤ bcI (bitr wo la k ki se wd hu bt) then (few, nI k, se, sg)
    else if all ≤ k ∨ 6 ≤ k then (bcI (bitr wo la k ki se wd hu bt), nI k, se, se)
    else fold8 (fun q x => if fi x.2.2.1 (nI q) k 0 = -1 then srC wo la all ki wd hu bt d (k + 1) x.1 (upd x.2.2.1 k (nI q)) x.2.2.2 else (x.1, nI k, x.2.2.1, x.2.2.2)) 8 (few, nI k, se, sg)
def hwC (hu : Nat → Int32) (x : Int64) : Nat → Nat → Int32
  | 0 => hu
  | i + 1 => upd (hwC hu x i) i (hgO (wkX x (i + 1)))
def wsC (wo : Int32) (n : Nat) (ki se wd : Nat → Int32) (d : Dy) (x : Int64) : Nat → Int64 × Int32
  | 0 => (x, 0)
  | k + 1 => (wkX (wsC wo n ki se wd d x k).1 n, (wsC wo n ki se wd d x k).2 + ((pmN wo n ki se wd 3 (d.1, d.2.1, d.2.2.1, hwC d.2.2.2.1 (wsC wo n ki se wd d x k).1 n, d.2.2.2.2)).2.1 - d.2.1))
def hmC (wo mi bi la : Int32) (n zn u z : Nat) (x : Int32) : Int32 := if x = 0 then nI n else if x = 1 then mi else if x = 2 then bi else if x = 3 then la else if x = 4 then wo else if x = 5 then nI zn else if x = 6 then nI u else nI z
def dgA (wo mi bi la : Int32) (n zn u z : Nat) : Nat → Int64
  | 0 => 1429
  | k + 1 => 31 * dgA wo mi bi la n zn u z k + (hmC wo mi bi la n zn u z (nI k)).toInt64
def poC (ki se wd hu bt : Nat → Int32) (k : Nat) (y : Int32) : Int32 := if y = 0 then ki k else if y = 1 then se k else if y = 2 then wd k else if y = 3 then hu k else bt k
def dgI (ki se wd hu bt : Nat → Int32) (k : Nat) : Nat → Int64 → Int64
  | 0, h => h
  | j + 1, h => 31 * dgI ki se wd hu bt k j h + (poC ki se wd hu bt k (nI j)).toInt64
def dgB (ki se wd hu bt : Nat → Int32) (h : Int64) : Nat → Int64
  | 0 => h
  | k + 1 => dgI ki se wd hu bt k 5 (dgB ki se wd hu bt h k)
def dgC (np : Nat → Int32) (h : Int64) : Nat → Int64
  | 0 => h
  | j + 1 => 31 * dgC np h j + (np j).toInt64
section XBK
variable {K : KA} {p : Program} {l : Launch} {e : Env} {R : Room} {s : State} {m : MethodId} {args : Array Value} {below : List Frame} {meth : Method} {c : Code} {H : Heap} {locs : List Loc} {cells slots : Nat} {Q : State → Prop}
variable {G : GG} {A : Nat → Prop} {bs bs' wb wb' : List va_W} {B w w' : va_W} {cc bytes : ByteArray} {nL maxL : Nat} {ret ret' : Option FieldType} {own : String} {pc index fr lo a i j : Nat} {ls : Array Slot} {rest st0 st1 As : List Value} {b : Nat} {y : MethodName} {o : Option Value}
theorem bk_pre {is : List Nat} (hK : KK G s) (hS : SK K A s s.heap) (hw : Bd G A s H locs bs) (hC : is.map (fun i => bs[i]?) = wb.map some) (hn : va_nd is = true) (hwb : wb.flatten = w) (av : List Value) : ∀ U : State, U.heap = H → s.WarmedH U.vm → PcK K G av w av.toArray U := fun U hU hW =>
  ⟨b_pre hK hw hC hn hwb av U hU hW, by
    rw [hU]
    refine SK.to hS hw.2.2.2.1 hW (fun q ⟨k, e', h⟩ => ?_)
    subst hwb
    obtain ⟨i, hi⟩ := List.getElem?_of_mem (bd_in hw hC (List.mem_of_getElem? h))
    exact hw.2.1.2 i _ hi⟩
theorem bk_callV {is : List Nat} {n ci : Nat} {fs : List Value} {q : vw_C} (E : Ex G p s m meth c cc nL ret own) (hS : SK K A s s.heap) (hM : CK K l G y bytes maxL ret' fr lo (.ref b :: As) w o w') (hv : VW own index y bytes maxL ret' n) (hw : Bd G A s H locs bs) (is0 : List Nat) (his : is0 = is) (i0 j0 : Nat) (hi0 : bs[i0]? = some B) (hq : B[j0]? = some (b, .inr (ci, fs))) (hc : cls[ci]? = some q) (hqc : q.1 = y.cls) (hC : is.map (fun i => bs[i]?) = wb.map some) (hnd : va_nd is = true) (hwb : wb.flatten = w) (hwb' : wb'.flatten = w') (ha : wb'.map (fun B => B.map (·.1)) = wb.map (fun B => B.map (·.1))) (hlsz : ls.size = nL)
    (hn : As.length = n) (hst0 : st0 = As.reverse ++ .ref b :: rest) (hroom : (rest.map fun v => v.category).sum ≤ 8) (hR : fr + 1 ≤ R.frames ∧ 8 + (maxL + 11) + lo ≤ R.locals) (hcl : cells ≤ R.cells) (hsl : slots ≤ R.slots) (hdg : decode cc pc = .ok (.invokevirtual index, 3)) (hws : setB bs is wb' = bs') (hst : o.toList ++ rest = st1)
    (kk : ∀ (H1 : Heap) (locs1 : List Loc), Bd G A s H1 locs1 bs' → W p l e R s m args below meth c H1 locs1 cells slots Q (F0 m (pc + 3) ls st1)) : W p l e R s m args below meth c H locs cells slots Q (F0 m pc ls st0) := by
  obtain ⟨hx, hb, hml, hown, hr, hlk, hK⟩ := E
  obtain ⟨q0, h1, -⟩ := flat_at hi0 hq
  have hrc := va_recv hK.1 hw.1 hc h1
  rw [hqc] at hrc
  have hp : PreV s H y.cls b (PcK K G (.ref b :: As) w) As := ⟨PcK.blind, hrc, bk_pre hK hS hw hC hnd hwb _⟩
  have hts : ∀ w ∈ ([] : List Cond), w.before args s = true := fun _ h => absurd h List.not_mem_nil
  subst hst0
  rcases hv.1.1 with h | ⟨host, h⟩
  · exact b_goes (va_runV (Ts := []) ⟨hx, hb, hml, hown, hts⟩ hM ⟨x_cb hK hv.1 h hR, hK.w hv.2.1, hK.w hv.2.2⟩ hp rfl hn hlsz rfl (lv_room hroom) hdg ⟨hcl, hsl⟩) hw hC hnd hwb hwb' ha hws hst kk
  · exact b_goes (va_runVN (Ts := []) ⟨hx, hb, hml, hown, hts⟩ hM ⟨x_cn hK hv.1 h hR, hK.w hv.2.1, hK.w hv.2.2⟩ hp rfl hn hlsz rfl (lv_room hroom) hdg ⟨hcl, hsl⟩) hw hC hnd hwb hwb' ha hws hst kk
end XBK
