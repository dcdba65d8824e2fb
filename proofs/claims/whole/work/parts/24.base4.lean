/-! worlds as lists of blocks -/
abbrev Bd (G : GG) (A : Nat → Prop) (s : State) (H : Heap) (locs : List Loc) (bs : List va_W) : Prop := Wd G A s H locs bs.flatten
theorem flat_at : ∀ {bs : List va_W} {i j : Nat} {B : va_W} {c : Nat × va_E}, bs[i]? = some B → B[j]? = some c → ∃ q0, bs.flatten[q0]? = some c ∧ ∀ c', bs.flatten.set q0 c' = (bs.set i (B.set j c')).flatten
  | [], i, j, B, c, hi, hj => by simp at hi
  | b :: bs, 0, j, B, c, hi, hj => by
    obtain rfl : b = B := by simpa using hi
    have hl : j < b.length := (List.getElem?_eq_some_iff.mp hj).1
    refine ⟨j, ?_, fun c' => ?_⟩
    · show (b ++ bs.flatten)[j]? = some c
      rw [List.getElem?_append_left hl]; exact hj
    · show (b ++ bs.flatten).set j c' = b.set j c' ++ bs.flatten
      rw [List.set_append_left _ _ hl]
  | b :: bs, i + 1, j, B, c, hi, hj => by
    obtain ⟨q0, h1, h2⟩ := flat_at (bs := bs) (i := i) (by simpa using hi) hj
    refine ⟨b.length + q0, ?_, fun c' => ?_⟩
    · show (b ++ bs.flatten)[b.length + q0]? = some c
      rw [List.getElem?_append_right (by omega), Nat.add_sub_cancel_left]; exact h1
    · show (b ++ bs.flatten).set (b.length + q0) c' = b ++ (bs.set i (B.set j c')).flatten
      rw [List.set_append_right _ _ (by omega), Nat.add_sub_cancel_left, h2 c']
def setB : List va_W → List Nat → List va_W → List va_W
  | ws, i :: is, q :: qs => setB (ws.set i q) is qs
  | ws, _, _ => ws
theorem setB_out : ∀ (is : List Nat) (ws qs : List va_W) (k : Nat), k ∉ is → (setB ws is qs)[k]? = ws[k]?
  | [], ws, qs, k, _ => by cases qs <;> rfl
  | i :: is, ws, [], k, _ => rfl
  | i :: is, ws, q :: qs, k, h => by
    have h1 : k ≠ i := fun e => h (by rw [e]; exact List.mem_cons_self)
    have h2 : k ∉ is := fun e => h (List.mem_cons_of_mem _ e)
    show (setB (ws.set i q) is qs)[k]? = _
    rw [setB_out is _ qs k h2, List.getElem?_set_ne (Ne.symm h1)]
theorem setB_in : ∀ (is : List Nat) (ws qs : List va_W) (k : Nat), va_nd is = true → is.length = qs.length → (∀ i ∈ is, i < ws.length) → k ∈ is → ∃ (j : Nat) (q : va_W), is[j]? = some k ∧ qs[j]? = some q ∧ (setB ws is qs)[k]? = some q
  | [], _, _, _, _, _, _, h => absurd h List.not_mem_nil
  | i :: is, ws, [], k, _, hl, _, _ => by simp at hl
  | i :: is, ws, q :: qs, k, hn, hl, hb, h => by
    simp only [va_nd, Bool.and_eq_true, decide_eq_true_eq] at hn
    by_cases hk : k ∈ is
    · obtain ⟨j, q', h1, h2, h3⟩ := setB_in is (ws.set i q) qs k hn.2 (by simpa using hl) (fun i' hi' => by rw [List.length_set]; exact hb i' (List.mem_cons_of_mem _ hi')) hk
      exact ⟨j + 1, q', by simpa using h1, by simpa using h2, h3⟩
    · have hki : k = i := by
        rcases List.mem_cons.mp h with e | e
        · exact e
        · exact absurd e hk
      subst hki
      refine ⟨0, q, rfl, rfl, ?_⟩
      show (setB (ws.set k q) is qs)[k]? = _
      rw [setB_out is _ qs k hk, List.getElem?_set_self (hb k List.mem_cons_self)]
theorem bmap_at {ws w : List va_W} {is : List Nat} (hs : is.map (fun i => ws[i]?) = w.map some) {k : Nat} {q : va_W} (hq : w[k]? = some q) : ∃ i, is[k]? = some i ∧ ws[i]? = some q := by
  have h1 : (is.map (fun i => ws[i]?))[k]? = some (some q) := by rw [hs, List.getElem?_map, hq]; rfl
  rw [List.getElem?_map] at h1
  cases hi : is[k]? with
  | none => rw [hi] at h1; cases h1
  | some i => rw [hi] at h1; exact ⟨i, rfl, Option.some.inj h1⟩
theorem bmap_at' {ws w : List va_W} {is : List Nat} (hs : is.map (fun i => ws[i]?) = w.map some) {k i : Nat} (hi : is[k]? = some i) : ∃ q, w[k]? = some q ∧ ws[i]? = some q := by
  have h1 : (w.map some)[k]? = some (ws[i]?) := by rw [← hs, List.getElem?_map, hi]; rfl
  rw [List.getElem?_map] at h1
  cases hq : w[k]? with
  | none => rw [hq] at h1; cases h1
  | some q => rw [hq] at h1; exact ⟨q, rfl, (Option.some.inj h1).symm⟩
theorem va_P_mem {D : va_G} {cl : List vw_C} {ws : va_W} {H : Heap} : va_P D cl ws H ↔ ∀ c ∈ ws, va_at D cl c H := by
  constructor
  · intro h c hc
    obtain ⟨k, hk⟩ := List.getElem?_of_mem hc
    exact h k c hk
  · intro h k c hk
    exact h c (List.mem_of_getElem? hk)
theorem va_D_adr {A : Nat → Prop} {ws ws' : va_W} (h : ws'.map (·.1) = ws.map (·.1)) (hD : va_D A ws) : va_D A ws' := by
  have key : ∀ (k : Nat) (q : Nat × va_E), ws'[k]? = some q → ∃ q0, ws[k]? = some q0 ∧ q0.1 = q.1 := by
    intro k q hk
    have h1 : (ws'.map (·.1))[k]? = (ws.map (·.1))[k]? := by rw [h]
    rw [List.getElem?_map, List.getElem?_map, hk] at h1
    cases hq : ws[k]? with
    | none => rw [hq] at h1; cases h1
    | some q0 => rw [hq] at h1; exact ⟨q0, rfl, (Option.some.inj h1).symm⟩
  refine ⟨fun i j p q hi hj hpq => ?_, fun k q hk => ?_⟩
  · obtain ⟨p0, h1, h2⟩ := key i p hi
    obtain ⟨q0, h3, h4⟩ := key j q hj
    exact hD.1 i j p0 q0 h1 h3 (h2.trans (hpq.trans h4.symm))
  · obtain ⟨q0, h1, h2⟩ := key k q hk
    rw [← h2]; exact hD.2 k q0 h1
theorem va_D_pw {A : Nat → Prop} {ws : va_W} (h : va_D A ws) : ws.Pairwise (fun c c2 => c.1 ≠ c2.1) := by
  rw [List.pairwise_iff_getElem]
  intro i j hi hj hij e
  have := h.1 i j ws[i] ws[j] (List.getElem?_eq_getElem hi) (List.getElem?_eq_getElem hj) e
  omega
theorem blk_apart {A : Nat → Prop} {bs : List va_W} (h : va_D A bs.flatten) {k k2 : Nat} {B B2 : va_W} (hk : bs[k]? = some B) (hk2 : bs[k2]? = some B2) {c c2 : Nat × va_E} (hc : c ∈ B) (hc2 : c2 ∈ B2) (e : c.1 = c2.1) : k = k2 := by
  have hp := (List.pairwise_flatten.mp (va_D_pw h)).2
  rw [List.pairwise_iff_getElem] at hp
  obtain ⟨l1, g1⟩ := List.getElem?_eq_some_iff.mp hk
  obtain ⟨l2, g2⟩ := List.getElem?_eq_some_iff.mp hk2
  rcases Nat.lt_trichotomy k k2 with q | q | q
  · exact absurd e (hp k k2 l1 l2 q c (by rw [g1]; exact hc) c2 (by rw [g2]; exact hc2))
  · exact q
  · exact absurd e.symm (hp k2 k l2 l1 q c2 (by rw [g2]; exact hc2) c (by rw [g1]; exact hc))
theorem setB_adr {bs wb wb' : List va_W} {is : List Nat} (hC : is.map (fun i => bs[i]?) = wb.map some) (hn : va_nd is = true) (ha : wb'.map (fun B => B.map (·.1)) = wb.map (fun B => B.map (·.1))) (hlen : is.length = wb'.length) (hb : ∀ i ∈ is, i < bs.length) : (setB bs is wb').map (fun B => B.map (·.1)) = bs.map (fun B => B.map (·.1)) := by
  apply List.ext_getElem?
  intro k
  rw [List.getElem?_map, List.getElem?_map]
  by_cases hk : k ∈ is
  · obtain ⟨j, q, h1, h2, h3⟩ := setB_in is bs wb' k hn hlen hb hk
    obtain ⟨q0, h4, h5⟩ := bmap_at' hC h1
    rw [h3, h5]
    have h6 : (wb'.map (fun B => B.map (·.1)))[j]? = (wb.map (fun B => B.map (·.1)))[j]? := by rw [ha]
    rw [List.getElem?_map, List.getElem?_map, h2, h4] at h6
    exact h6
  · rw [setB_out is bs wb' k hk]
theorem Bd.back {G : GG} {A : Nat → Prop} {s : State} {H H1 : Heap} {locs locs1 : List Loc} {bs wb wb' : List va_W} (hw : Bd G A s H locs bs) (is : List Nat) (hC : is.map (fun i => bs[i]?) = wb.map some) (hn : va_nd is = true) (ha : wb'.map (fun B => B.map (·.1)) = wb.map (fun B => B.map (·.1))) (hk : ∀ q : Nat, q < H.size → ¬ va_B wb.flatten q → H1[q]? = H[q]?) (hP1 : va_P G.1 cls wb'.flatten H1) (hS : va_S A s.heap H1 locs1) : Bd G A s H1 locs1 (setB bs is wb') := by
  have hlen : is.length = wb'.length := by
    have h1 := congrArg List.length hC
    have h2 := congrArg List.length ha
    simp only [List.length_map] at h1 h2
    omega
  have hb : ∀ i ∈ is, i < bs.length := fun i hi => by
    obtain ⟨j, hj⟩ := List.getElem?_of_mem hi
    obtain ⟨q, -, h2⟩ := bmap_at' hC hj
    exact (List.getElem?_eq_some_iff.mp h2).1
  refine ⟨va_P_mem.mpr (fun c hc => ?_), va_D_adr ?_ hw.2.1, hS⟩
  · obtain ⟨B, hB, hcB⟩ := List.mem_flatten.mp hc
    obtain ⟨k, hkB⟩ := List.getElem?_of_mem hB
    by_cases hki : k ∈ is
    · obtain ⟨j, q', h1, h2, h3⟩ := setB_in is bs wb' k hn hlen hb hki
      rw [h3] at hkB
      cases hkB
      exact va_P_mem.mp hP1 c (List.mem_flatten.mpr ⟨_, List.mem_of_getElem? h2, hcB⟩)
    · rw [setB_out is bs wb' k hki] at hkB
      have hcf : c ∈ bs.flatten := List.mem_flatten.mpr ⟨_, List.mem_of_getElem? hkB, hcB⟩
      have hat := va_P_mem.mp hw.1 c hcf
      refine hat.kept (hk c.1 hat.lt (fun h => ?_))
      obtain ⟨j, e, hj⟩ := h
      obtain ⟨B2, hB2, hc2⟩ := List.mem_flatten.mp (List.mem_of_getElem? hj)
      obtain ⟨j2, hj2⟩ := List.getElem?_of_mem hB2
      obtain ⟨i, h1, h2⟩ := bmap_at hC hj2
      have := blk_apart hw.2.1 hkB h2 hcB hc2 rfl
      exact hki (by rw [this]; exact List.mem_of_getElem? h1)
  · rw [List.map_flatten, List.map_flatten]
    exact congrArg List.flatten (setB_adr hC hn ha hlen hb)
theorem bd_in {G : GG} {A : Nat → Prop} {s : State} {H : Heap} {locs : List Loc} {bs wb : List va_W} {is : List Nat} (hw : Bd G A s H locs bs) (hC : is.map (fun i => bs[i]?) = wb.map some) {c : Nat × va_E} (hc : c ∈ wb.flatten) : c ∈ bs.flatten := by
  obtain ⟨B, hB, hcB⟩ := List.mem_flatten.mp hc
  obtain ⟨j, hj⟩ := List.getElem?_of_mem hB
  obtain ⟨i, -, h2⟩ := bmap_at hC hj
  exact List.mem_flatten.mpr ⟨_, List.mem_of_getElem? h2, hcB⟩
theorem pw_pick {A : Nat → Prop} {bs : List va_W} (h : va_D A bs.flatten) : ∀ (is : List Nat) (wb : List va_W), is.map (fun i => bs[i]?) = wb.map some → va_nd is = true → wb.flatten.Pairwise (fun c c2 => c.1 ≠ c2.1)
  | [], [], _, _ => List.Pairwise.nil
  | [], w :: wb, hC, _ => by simp at hC
  | i :: is, [], hC, _ => by simp at hC
  | i :: is, w :: wb, hC, hn => by
    simp only [va_nd, Bool.and_eq_true, decide_eq_true_eq] at hn
    simp only [List.map_cons, List.cons.injEq] at hC
    have hp := (List.pairwise_flatten.mp (va_D_pw h)).1 w (List.mem_of_getElem? hC.1)
    show (w ++ wb.flatten).Pairwise _
    rw [List.pairwise_append]
    refine ⟨hp, pw_pick h is wb hC.2 hn.2, fun c hc c2 hc2 e => ?_⟩
    obtain ⟨B, hB, hcB⟩ := List.mem_flatten.mp hc2
    obtain ⟨j, hj⟩ := List.getElem?_of_mem hB
    obtain ⟨i2, h1, h2⟩ := bmap_at hC.2 hj
    have := blk_apart h hC.1 h2 hc hcB e
    exact hn.1 (by rw [this]; exact List.mem_of_getElem? h1)
theorem pw_D {ws : va_W} (h : ws.Pairwise (fun c c2 => c.1 ≠ c2.1)) : va_D (fun _ => True) ws := by
  rw [List.pairwise_iff_getElem] at h
  refine ⟨fun i j p q hi hj e => ?_, fun _ _ _ => trivial⟩
  obtain ⟨l1, g1⟩ := List.getElem?_eq_some_iff.mp hi
  obtain ⟨l2, g2⟩ := List.getElem?_eq_some_iff.mp hj
  rcases Nat.lt_trichotomy i j with r | r | r
  · exact absurd (by rw [g1, g2]; exact e) (h i j l1 l2 r)
  · exact r
  · exact absurd (by rw [g1, g2]; exact e.symm) (h j i l2 l1 r)
section XB
variable {p : Program} {l : Launch} {e : Env} {R : Room} {s : State} {m : MethodId} {args : Array Value} {below : List Frame} {meth : Method} {c : Code} {H : Heap} {locs : List Loc} {cells slots : Nat} {Q : State → Prop}
variable {G : GG} {A : Nat → Prop} {bs bs' wb wb' : List va_W} {B w w' : va_W} {cc bytes : ByteArray} {nL maxL : Nat} {ret ret' : Option FieldType} {own : String} {pc index fr lo a i j : Nat} {ls : Array Slot} {rest st0 st1 As : List Value} {b : Nat} {y : MethodName} {o : Option Value}
theorem b_get (E : Ex G p s m meth c cc nL ret own) (hw : Bd G A s H locs bs) {index ci k : Nat} (f : FW own index ci k) (i j : Nat) (hi : bs[i]? = some B) {fs : List Value} (he : B[j]? = some (a, .inr (ci, fs))) {v : Value} (hv : fs[k]? = some v) (hdg : decode cc pc = .ok (.getfield index, 3))
    (kk : W p l e R s m args below meth c H locs cells slots Q (F0 m (pc + 3) ls (v :: rest))) : W p l e R s m args below meth c H locs cells slots Q (F0 m pc ls (.ref a :: rest)) := by
  obtain ⟨q0, h1, -⟩ := flat_at hi he
  exact x_get E hw f q0 h1 hv hdg kk
theorem b_put (E : Ex G p s m meth c cc nL ret own) (hw : Bd G A s H locs bs) {index ci k : Nat} (f : FW own index ci k) (i j : Nat) (hi : bs[i]? = some B) {fs : List Value} (he : B[j]? = some (a, .inr (ci, fs))) {v : Value} {ty : FieldType} {C : String} {T : u_T} {N : Nat} (hc : cls[ci]? = some (C, T, N)) (hfin : (T k).2.2.2 = false) (hd : parseFieldDescriptor (T k).2.2.1 = some ty) (hn : narrow ty v = v) (hfit : fits ty v = true) (hlen : k < fs.length) (hdg : decode cc pc = .ok (.putfield index, 3)) (hws : bs.set i (B.set j (a, .inr (ci, fs.set k v))) = bs')
    (kk : ∀ (H1 : Heap) (locs1 : List Loc), Bd G A s H1 locs1 bs' → W p l e R s m args below meth c H1 locs1 cells slots Q (F0 m (pc + 3) ls rest)) : W p l e R s m args below meth c H locs cells slots Q (F0 m pc ls (v :: .ref a :: rest)) := by
  obtain ⟨q0, h1, h2⟩ := flat_at hi he
  exact x_put E hw f q0 h1 hc hfin hd hn hfit hlen hdg ((h2 _).trans (congrArg List.flatten hws)) kk
theorem b_iald (E : Ex G p s m meth c cc nL ret own) (hw : Bd G A s H locs bs) (i0 j0 : Nat) (hi0 : bs[i0]? = some B) {n : Nat} {f : Nat → Int32} (ha : B[j0]? = some (a, .inl (G.2 0, n, .inl f))) {i : Int32} (k : Nat) (hi : i = nI k) (hk : k < n) (hn : n < 2 ^ 31) (hdg : decode cc pc = .ok (.iaload, 1))
    (kk : W p l e R s m args below meth c H locs cells slots Q (F0 m (pc + 1) ls (.int (f k) :: rest))) : W p l e R s m args below meth c H locs cells slots Q (F0 m pc ls (.int i :: .ref a :: rest)) := by
  obtain ⟨q0, h1, -⟩ := flat_at hi0 ha
  exact x_iald E hw q0 h1 k hi hk hn hdg kk
theorem b_bald (E : Ex G p s m meth c cc nL ret own) (hw : Bd G A s H locs bs) (i0 j0 : Nat) (hi0 : bs[i0]? = some B) {n : Nat} {f : Nat → Int32} (ha : B[j0]? = some (a, .inl (G.2 1, n, .inl f))) {i : Int32} (k : Nat) (hi : i = nI k) (hk : k < n) (hn : n < 2 ^ 31) (hdg : decode cc pc = .ok (.baload, 1))
    (kk : W p l e R s m args below meth c H locs cells slots Q (F0 m (pc + 1) ls (.int (f k) :: rest))) : W p l e R s m args below meth c H locs cells slots Q (F0 m pc ls (.int i :: .ref a :: rest)) := by
  obtain ⟨q0, h1, -⟩ := flat_at hi0 ha
  exact x_bald E hw q0 h1 k hi hk hn hdg kk
theorem b_zald (E : Ex G p s m meth c cc nL ret own) (hw : Bd G A s H locs bs) (i0 j0 : Nat) (hi0 : bs[i0]? = some B) {n : Nat} {f : Nat → Int32} (ha : B[j0]? = some (a, .inl (G.2 2, n, .inl f))) {i : Int32} (k : Nat) (hi : i = nI k) (hk : k < n) (hn : n < 2 ^ 31) (hdg : decode cc pc = .ok (.baload, 1))
    (kk : W p l e R s m args below meth c H locs cells slots Q (F0 m (pc + 1) ls (.int (f k) :: rest))) : W p l e R s m args below meth c H locs cells slots Q (F0 m pc ls (.int i :: .ref a :: rest)) := by
  obtain ⟨q0, h1, -⟩ := flat_at hi0 ha
  exact x_zald E hw q0 h1 k hi hk hn hdg kk
theorem b_iast (E : Ex G p s m meth c cc nL ret own) (hw : Bd G A s H locs bs) (i0 j0 : Nat) (hi0 : bs[i0]? = some B) {n : Nat} {f : Nat → Int32} (ha : B[j0]? = some (a, .inl (G.2 0, n, .inl f))) {i x : Int32} (k : Nat) (hi : i = nI k) (hk : k < n) (hn : n < 2 ^ 31) (hdg : decode cc pc = .ok (.iastore, 1)) (hws : bs.set i0 (B.set j0 (a, .inl (G.2 0, n, .inl (upd f k x)))) = bs')
    (kk : ∀ (H1 : Heap) (locs1 : List Loc), Bd G A s H1 locs1 bs' → W p l e R s m args below meth c H1 locs1 cells slots Q (F0 m (pc + 1) ls rest)) : W p l e R s m args below meth c H locs cells slots Q (F0 m pc ls (.int x :: .int i :: .ref a :: rest)) := by
  obtain ⟨q0, h1, h2⟩ := flat_at hi0 ha
  exact x_iast E hw q0 h1 k hi hk hn hdg ((h2 _).trans (congrArg List.flatten hws)) kk
theorem b_bast (E : Ex G p s m meth c cc nL ret own) (hw : Bd G A s H locs bs) (i0 j0 : Nat) (hi0 : bs[i0]? = some B) {n : Nat} {f : Nat → Int32} (ha : B[j0]? = some (a, .inl (G.2 1, n, .inl f))) {i x : Int32} (k : Nat) (hi : i = nI k) (hk : k < n) (hn : n < 2 ^ 31) (hdg : decode cc pc = .ok (.bastore, 1)) (hws : bs.set i0 (B.set j0 (a, .inl (G.2 1, n, .inl (upd f k x.toInt8.toInt32)))) = bs')
    (kk : ∀ (H1 : Heap) (locs1 : List Loc), Bd G A s H1 locs1 bs' → W p l e R s m args below meth c H1 locs1 cells slots Q (F0 m (pc + 1) ls rest)) : W p l e R s m args below meth c H locs cells slots Q (F0 m pc ls (.int x :: .int i :: .ref a :: rest)) := by
  obtain ⟨q0, h1, h2⟩ := flat_at hi0 ha
  exact x_bast E hw q0 h1 k hi hk hn hdg ((h2 _).trans (congrArg List.flatten hws)) kk
theorem b_zast (E : Ex G p s m meth c cc nL ret own) (hw : Bd G A s H locs bs) (i0 j0 : Nat) (hi0 : bs[i0]? = some B) {n : Nat} {f : Nat → Int32} (ha : B[j0]? = some (a, .inl (G.2 2, n, .inl f))) {i x : Int32} (k : Nat) (hi : i = nI k) (hk : k < n) (hn : n < 2 ^ 31) (hdg : decode cc pc = .ok (.bastore, 1)) (hws : bs.set i0 (B.set j0 (a, .inl (G.2 2, n, .inl (upd f k (vp_nar .boolean x))))) = bs')
    (kk : ∀ (H1 : Heap) (locs1 : List Loc), Bd G A s H1 locs1 bs' → W p l e R s m args below meth c H1 locs1 cells slots Q (F0 m (pc + 1) ls rest)) : W p l e R s m args below meth c H locs cells slots Q (F0 m pc ls (.int x :: .int i :: .ref a :: rest)) := by
  obtain ⟨q0, h1, h2⟩ := flat_at hi0 ha
  exact x_zast E hw q0 h1 k hi hk hn hdg ((h2 _).trans (congrArg List.flatten hws)) kk
theorem b_aldq (E : Ex G p s m meth c cc nL ret own) (hw : Bd G A s H locs bs) (i0 j0 t0 : Nat) (hi0 : bs[i0]? = some B) {cA : ClassId} {C : String} {n : Nat} {f : Nat → Option Nat} (ha : B[j0]? = some (a, .inl (cA, n, .inr (.inr (.inr (.inr f)))))) (ht : (gty G)[t0]? = some (cA, .object C)) {i : Int32} (k : Nat) (hi : i = nI k) (hk : k < n) (hn : n < 2 ^ 31) {b : Nat} (hf : f k = some b) (hdg : decode cc pc = .ok (.aaload, 1))
    (kk : W p l e R s m args below meth c H locs cells slots Q (F0 m (pc + 1) ls (.ref b :: rest))) : W p l e R s m args below meth c H locs cells slots Q (F0 m pc ls (.int i :: .ref a :: rest)) := by
  obtain ⟨q0, h1, -⟩ := flat_at hi0 ha
  exact x_aldq E hw q0 t0 h1 ht k hi hk hn hf hdg kk
theorem b_len (E : Ex G p s m meth c cc nL ret own) (hw : Bd G A s H locs bs) (i0 j0 t0 : Nat) (hi0 : bs[i0]? = some B) {cA : ClassId} {x : vp_A} (ha : B[j0]? = some (a, .inl (cA, x))) {ty : FieldType} (ht : (gty G)[t0]? = some (cA, ty)) {v : Int32} (hv : Int32.ofNat x.1 = v) (hdg : decode cc pc = .ok (.arraylength, 1))
    (kk : W p l e R s m args below meth c H locs cells slots Q (F0 m (pc + 1) ls (.int v :: rest))) : W p l e R s m args below meth c H locs cells slots Q (F0 m pc ls (.ref a :: rest)) := by
  obtain ⟨q0, h1, -⟩ := flat_at hi0 ha
  exact x_len E hw q0 t0 h1 ht hv hdg kk
theorem b_copyi (E : Ex G p s m meth c cc nL ret own) (hw : Bd G A s H locs bs) {index : Nat} (hl : LW own index arraycopyName) (hnat : okw (.native arraycopyName)) (hls : ls.size = nL) (i0 j0 i1 j1 : Nat) {B0 : va_W} (hi0 : bs[i0]? = some B0) (hi1 : bs[i1]? = some B) {a0 n : Nat} {f g : Nat → Int32} (ha0 : B0[j0]? = some (a0, .inl (G.2 0, n, .inl f))) (ha1 : B[j1]? = some (a, .inl (G.2 0, n, .inl g))) {sp dp x : Int32} (hsp : sp = 0) (hdp : dp = 0) (hx : x = nI n) (hn : n < 2 ^ 31)
    (hframes : 1 ≤ R.frames) (hlocals : (rest.map fun v => v.category).sum + (nativeFrameWords "java/lang/System" "arraycopy" 5 + 11) ≤ R.locals) (hdg : decode cc pc = .ok (.invokestatic index, 3)) (hws : bs.set i1 (B.set j1 (a, .inl (G.2 0, n, .inl f))) = bs')
    (kk : ∀ (H1 : Heap) (locs1 : List Loc), Bd G A s H1 locs1 bs' → W p l e R s m args below meth c H1 locs1 cells slots Q (F0 m (pc + 3) ls rest)) : W p l e R s m args below meth c H locs cells slots Q (F0 m pc ls (.int x :: .int dp :: .ref a :: .int sp :: .ref a0 :: rest)) := by
  obtain ⟨q0, h1, -⟩ := flat_at hi0 ha0
  obtain ⟨q1, h3, h4⟩ := flat_at hi1 ha1
  exact x_copyi E hw hl hnat hls q0 q1 h1 h3 hsp hdp hx hn hframes hlocals hdg ((h4 _).trans (congrArg List.flatten hws)) kk
theorem Bd.arr (hw : Bd G A s H locs bs) (i0 j0 : Nat) (hi0 : bs[i0]? = some B) {cA : ClassId} {n : Nat} {f g : Nat → Int32} (ha : B[j0]? = some (a, .inl (cA, n, .inl f))) (h : ∀ j, j < n → f j = g j) (hws : bs.set i0 (B.set j0 (a, .inl (cA, n, .inl g))) = bs') : Bd G A s H locs bs' := by
  obtain ⟨q0, h1, h2⟩ := flat_at hi0 ha
  exact Wd.arr hw q0 h1 h ((h2 _).trans (congrArg List.flatten hws))
theorem b_goes {a : Array Value} {is : List Nat} (hr : va_Run p l e R s m args below meth c H locs cells slots 0 0 (F0 m pc ls st0) rest (QcT G w o w' a) (va_B w)) (hw : Bd G A s H locs bs) (hC : is.map (fun i => bs[i]?) = wb.map some) (hn : va_nd is = true) (hwb : wb.flatten = w) (hwb' : wb'.flatten = w') (ha : wb'.map (fun B => B.map (·.1)) = wb.map (fun B => B.map (·.1))) (hws : setB bs is wb' = bs') (hst : o.toList ++ rest = st1)
    (kk : ∀ (H1 : Heap) (locs1 : List Loc), Bd G A s H1 locs1 bs' → W p l e R s m args below meth c H1 locs1 cells slots Q (F0 m (pc + 3) ls st1)) : W p l e R s m args below meth c H locs cells slots Q (F0 m pc ls st0) := by
  intro T hT X
  obtain ⟨v, st₀, t, T', L, h0, X', hL, e1, e2, ⟨⟨hv, hp⟩, hz, hk⟩, st⟩ := hr T hT X
  cases hv
  rw [h0] at hz hk
  subst hws
  subst hst
  subst hwb
  subst hwb'
  have hBA : ∀ q, va_B wb.flatten q → A q := fun q ⟨k, e', h⟩ => by
    obtain ⟨i, hi⟩ := List.getElem?_of_mem (bd_in hw hC (List.mem_of_getElem? h))
    exact hw.2.1.2 i _ hi
  obtain ⟨t2, a1, b1⟩ := kk T'.heap (locs ++ L) (hw.back is hC hn ha (fun q h1 h2 => by rw [e1]; exact hk q h1 h2) (by rw [e1]; exact hp)
    ⟨Nat.le_trans hw.2.2.1 (by rw [e1]; exact hz), fun q h1 h2 => by rw [e1, hk q (Nat.lt_of_lt_of_le h1 hw.2.2.1) (fun z => h2 (hBA q z))]; exact hw.2.2.2.1 q h1 h2, fun q hq => by
      rcases List.mem_append.mp hq with h | h
      · exact hw.2.2.2.2 q h
      · exact hBA _ (hL q h)⟩) T' rfl X'
  exact ⟨t2, st t2 a1, b1⟩
theorem b_pre {is : List Nat} (hK : KK G s) (hw : Bd G A s H locs bs) (hC : is.map (fun i => bs[i]?) = wb.map some) (hn : va_nd is = true) (hwb : wb.flatten = w) (av : List Value) : ∀ U : State, U.heap = H → s.WarmedH U.vm → PcT G av w av.toArray U := by
  intro U hU hW
  subst hwb
  refine ⟨rfl, hK.warm hW, ?_, pw_D (pw_pick hw.2.1 is wb hC hn)⟩
  rw [hU]
  exact va_P_mem.mpr (fun c hc => va_P_mem.mp hw.1 c (bd_in hw hC hc))
theorem b_callV {is : List Nat} {n ci : Nat} {fs : List Value} {q : vw_C} (E : Ex G p s m meth c cc nL ret own) (hM : CT l G y bytes maxL ret' fr lo (.ref b :: As) w o w') (hv : VW own index y bytes maxL ret' n) (hw : Bd G A s H locs bs) (is0 : List Nat) (his : is0 = is) (i0 j0 : Nat) (hi0 : bs[i0]? = some B) (hq : B[j0]? = some (b, .inr (ci, fs))) (hc : cls[ci]? = some q) (hqc : q.1 = y.cls) (hC : is.map (fun i => bs[i]?) = wb.map some) (hnd : va_nd is = true) (hwb : wb.flatten = w) (hwb' : wb'.flatten = w') (ha : wb'.map (fun B => B.map (·.1)) = wb.map (fun B => B.map (·.1))) (hlsz : ls.size = nL)
    (hn : As.length = n) (hst0 : st0 = As.reverse ++ .ref b :: rest) (hroom : (rest.map fun v => v.category).sum ≤ 8) (hR : fr + 1 ≤ R.frames ∧ 8 + (maxL + 11) + lo ≤ R.locals) (hcl : cells ≤ R.cells) (hsl : slots ≤ R.slots) (hdg : decode cc pc = .ok (.invokevirtual index, 3)) (hws : setB bs is wb' = bs') (hst : o.toList ++ rest = st1)
    (kk : ∀ (H1 : Heap) (locs1 : List Loc), Bd G A s H1 locs1 bs' → W p l e R s m args below meth c H1 locs1 cells slots Q (F0 m (pc + 3) ls st1)) : W p l e R s m args below meth c H locs cells slots Q (F0 m pc ls st0) := by
  obtain ⟨hx, hb, hml, hown, hr, hlk, hK⟩ := E
  obtain ⟨q0, h1, -⟩ := flat_at hi0 hq
  have hrc := va_recv hK.1 hw.1 hc h1
  rw [hqc] at hrc
  have hp : PreV s H y.cls b (PcT G (.ref b :: As) w) As := ⟨PcT.blind, hrc, b_pre hK hw hC hnd hwb _⟩
  have hts : ∀ w ∈ ([] : List Cond), w.before args s = true := fun _ h => absurd h List.not_mem_nil
  subst hst0
  rcases hv.1.1 with h | ⟨host, h⟩
  · exact b_goes (va_runV (Ts := []) ⟨hx, hb, hml, hown, hts⟩ hM ⟨x_cb hK hv.1 h hR, hK.w hv.2.1, hK.w hv.2.2⟩ hp rfl hn hlsz rfl (lv_room hroom) hdg ⟨hcl, hsl⟩) hw hC hnd hwb hwb' ha hws hst kk
  · exact b_goes (va_runVN (Ts := []) ⟨hx, hb, hml, hown, hts⟩ hM ⟨x_cn hK hv.1 h hR, hK.w hv.2.1, hK.w hv.2.2⟩ hp rfl hn hlsz rfl (lv_room hroom) hdg ⟨hcl, hsl⟩) hw hC hnd hwb hwb' ha hws hst kk
theorem b_callS {is : List Nat} {n : Nat} (E : Ex G p s m meth c cc nL ret own) (hM : CT l G y bytes maxL ret' fr lo As w o w') (hv : SW own index y bytes maxL ret' n) (hw : Bd G A s H locs bs) (is0 : List Nat) (his : is0 = is) (hC : is.map (fun i => bs[i]?) = wb.map some) (hnd : va_nd is = true) (hwb : wb.flatten = w) (hwb' : wb'.flatten = w') (ha : wb'.map (fun B => B.map (·.1)) = wb.map (fun B => B.map (·.1))) (hlsz : ls.size = nL)
    (hn : As.length = n) (hst0 : st0 = As.reverse ++ rest) (hroom : (rest.map fun v => v.category).sum ≤ 8) (hR : fr + 1 ≤ R.frames ∧ 8 + (maxL + 11) + lo ≤ R.locals) (hcl : cells ≤ R.cells) (hsl : slots ≤ R.slots) (hdg : decode cc pc = .ok (.invokestatic index, 3)) (hws : setB bs is wb' = bs') (hst : o.toList ++ rest = st1)
    (kk : ∀ (H1 : Heap) (locs1 : List Loc), Bd G A s H1 locs1 bs' → W p l e R s m args below meth c H1 locs1 cells slots Q (F0 m (pc + 3) ls st1)) : W p l e R s m args below meth c H locs cells slots Q (F0 m pc ls st0) := by
  obtain ⟨hx, hb, hml, hown, hr, hlk, hK⟩ := E
  have hp : PreS s H (PcT G As w) As := ⟨PcT.blind, b_pre hK hw hC hnd hwb _⟩
  have hts : ∀ w ∈ ([] : List Cond), w.before args s = true := fun _ h => absurd h List.not_mem_nil
  subst hst0
  rcases hv.1.1 with h | ⟨host, h⟩
  · exact b_goes (va_runS (Ts := []) ⟨hx, hb, hml, hown, hts⟩ hM ⟨x_cb hK hv.1 h hR, hK.w hv.2⟩ hp rfl hn hlsz rfl (lv_room hroom) hdg ⟨hcl, hsl⟩) hw hC hnd hwb hwb' ha hws hst kk
  · exact b_goes (va_runSN (Ts := []) ⟨hx, hb, hml, hown, hts⟩ hM ⟨x_cn hK hv.1 h hR, hK.w hv.2, trivial⟩ hp rfl hn hlsz rfl (lv_room hroom) hdg ⟨hcl, hsl⟩) hw hC hnd hwb hwb' ha hws hst kk
theorem b_goesE {σ : Type} {F : σ → va_W} {Fb : σ → List va_W} {a : Array Value} {is : List Nat} (hr : va_Run p l e R s m args below meth c H locs cells slots 0 0 (F0 m pc ls st0) rest (QcE G w o F a) (va_B w)) (hw : Bd G A s H locs bs) (hC : is.map (fun i => bs[i]?) = wb.map some) (hn : va_nd is = true) (hwb : wb.flatten = w) (hwb' : ∀ u, (Fb u).flatten = F u) (ha : ∀ u, (Fb u).map (fun B => B.map (·.1)) = wb.map (fun B => B.map (·.1))) {bs' : σ → List va_W} (hws : ∀ u, setB bs is (Fb u) = bs' u) (hst : o.toList ++ rest = st1)
    (kk : ∀ (u : σ) (H1 : Heap) (locs1 : List Loc), Bd G A s H1 locs1 (bs' u) → W p l e R s m args below meth c H1 locs1 cells slots Q (F0 m (pc + 3) ls st1)) : W p l e R s m args below meth c H locs cells slots Q (F0 m pc ls st0) := by
  intro T hT X
  obtain ⟨v, st₀, t, T', L, h0, X', hL, e1, e2, ⟨⟨hv, u, hp⟩, hz, hk⟩, st⟩ := hr T hT X
  cases hv
  rw [h0] at hz hk
  subst hst
  subst hwb
  have hBA : ∀ q, va_B wb.flatten q → A q := fun q ⟨k, e', h⟩ => by
    obtain ⟨i, hi⟩ := List.getElem?_of_mem (bd_in hw hC (List.mem_of_getElem? h))
    exact hw.2.1.2 i _ hi
  obtain ⟨t2, a1, b1⟩ := kk u T'.heap (locs ++ L) (hws u ▸ hw.back is hC hn (ha u) (fun q h1 h2 => by rw [e1]; exact hk q h1 h2) (by rw [hwb' u, e1]; exact hp)
    ⟨Nat.le_trans hw.2.2.1 (by rw [e1]; exact hz), fun q h1 h2 => by rw [e1, hk q (Nat.lt_of_lt_of_le h1 hw.2.2.1) (fun z => h2 (hBA q z))]; exact hw.2.2.2.1 q h1 h2, fun q hq => by
      rcases List.mem_append.mp hq with h | h
      · exact hw.2.2.2.2 q h
      · exact hBA _ (hL q h)⟩) T' rfl X'
  exact ⟨t2, st t2 a1, b1⟩
theorem b_callVE {σ : Type} {F : σ → va_W} {Fb : σ → List va_W} {is : List Nat} {n ci : Nat} {fs : List Value} {q : vw_C} (E : Ex G p s m meth c cc nL ret own) (hM : CE l G y bytes maxL ret' fr lo (.ref b :: As) w o F) (hv : VW own index y bytes maxL ret' n) (hw : Bd G A s H locs bs) (is0 : List Nat) (his : is0 = is) (i0 j0 : Nat) (hi0 : bs[i0]? = some B) (hq : B[j0]? = some (b, .inr (ci, fs))) (hc : cls[ci]? = some q) (hqc : q.1 = y.cls) (hC : is.map (fun i => bs[i]?) = wb.map some) (hnd : va_nd is = true) (hwb : wb.flatten = w) (hwb' : ∀ u, (Fb u).flatten = F u) (ha : ∀ u, (Fb u).map (fun B => B.map (·.1)) = wb.map (fun B => B.map (·.1))) (hlsz : ls.size = nL)
    (hn : As.length = n) (hst0 : st0 = As.reverse ++ .ref b :: rest) (hroom : (rest.map fun v => v.category).sum ≤ 8) (hR : fr + 1 ≤ R.frames ∧ 8 + (maxL + 11) + lo ≤ R.locals) (hcl : cells ≤ R.cells) (hsl : slots ≤ R.slots) (hdg : decode cc pc = .ok (.invokevirtual index, 3)) {bs' : σ → List va_W} (hws : ∀ u, setB bs is (Fb u) = bs' u) (hst : o.toList ++ rest = st1)
    (kk : ∀ (u : σ) (H1 : Heap) (locs1 : List Loc), Bd G A s H1 locs1 (bs' u) → W p l e R s m args below meth c H1 locs1 cells slots Q (F0 m (pc + 3) ls st1)) : W p l e R s m args below meth c H locs cells slots Q (F0 m pc ls st0) := by
  obtain ⟨hx, hb, hml, hown, hr, hlk, hK⟩ := E
  obtain ⟨q0, h1, -⟩ := flat_at hi0 hq
  have hrc := va_recv hK.1 hw.1 hc h1
  rw [hqc] at hrc
  have hp : PreV s H y.cls b (PcT G (.ref b :: As) w) As := ⟨PcT.blind, hrc, b_pre hK hw hC hnd hwb _⟩
  have hts : ∀ w ∈ ([] : List Cond), w.before args s = true := fun _ h => absurd h List.not_mem_nil
  subst hst0
  rcases hv.1.1 with h | ⟨host, h⟩
  · exact b_goesE (va_runV (Ts := []) ⟨hx, hb, hml, hown, hts⟩ hM ⟨x_cb hK hv.1 h hR, hK.w hv.2.1, hK.w hv.2.2⟩ hp rfl hn hlsz rfl (lv_room hroom) hdg ⟨hcl, hsl⟩) hw hC hnd hwb hwb' ha hws hst kk
  · exact b_goesE (va_runVN (Ts := []) ⟨hx, hb, hml, hown, hts⟩ hM ⟨x_cn hK hv.1 h hR, hK.w hv.2.1, hK.w hv.2.2⟩ hp rfl hn hlsz rfl (lv_room hroom) hdg ⟨hcl, hsl⟩) hw hC hnd hwb hwb' ha hws hst kk
end XB
theorem flat1 (w : va_W) : [w].flatten = w := by simp
theorem flat2 (a b : va_W) : [a, b].flatten = a ++ b := by simp
