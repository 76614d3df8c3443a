/-! MAKING: worlds of the first n cells; writes as lists -/
abbrev WIl : Type := List (Nat × Nat × Nat × Int32)
abbrev WRl : Type := List (Nat × Nat × Nat × (Nat × Nat))
def dI : WIl → IM
  | [] => fun _ _ _ => 0
  | (b, o, k, x) :: r => wI (dI r) b o k x
def wR (R : RM) (b o k : Nat) (q : Nat × Nat) : RM := fun b' o' k' => if b' = b ∧ o' = o ∧ k' = k then some q else R b' o' k'
def dR : WRl → RM
  | [] => fun _ _ _ => none
  | (b, o, k, q) :: r => wR (dR r) b o k q
def Fz : FM := fun _ _ _ => 0
def AW (g : GG) (n : Nat) (WI : WIl) (WR : WRl) : va_W := wsL (PL.take n) (dR WR) g (dI WI) Fz
def SZ (n : Nat) : Nat := ((PL.take n).map (fun q => zsz q.1 q.2)).sum
def InvA (n : Nat) (WI : WIl) (WR : WRl) : Prop := (∀ e ∈ WI, okA (PL.take n) (e.1, e.2.1)) ∧ ∀ e ∈ WR, okA (PL.take n) (e.1, e.2.1) ∧ okA (PL.take n) e.2.2.2
def agr (n : Nat) (g g' : GG) : Prop := g'.1 = g.1 ∧ g'.2.1 = g.2.1 ∧ ∀ i, i < n → g'.2.2 i = g.2.2 i
theorem agr.rf {n : Nat} {g : GG} : agr n g g := ⟨rfl, rfl, fun _ _ => rfl⟩
theorem agr.tr {n m : Nat} {g g1 g2 : GG} (h : n ≤ m) (h1 : agr n g g1) (h2 : agr m g1 g2) : agr n g g2 := ⟨h2.1.trans h1.1, h2.2.1.trans h1.2.1, fun i hi => (h2.2.2 i (by omega)).trans (h1.2.2 i hi)⟩
theorem okA_lt {n : Nat} {q : Nat × Nat} (h : okA (PL.take n) q) : ix q.1 q.2 < n := by
  have h1 := (List.getElem?_eq_some_iff.mp h).1
  rw [List.length_take] at h1
  omega
theorem okA_PL {n : Nat} {q : Nat × Nat} (h : okA (PL.take n) q) : okA PL q := by
  have h1 : (PL.take n)[ix q.1 q.2]? = some q := h
  rw [List.getElem?_take_of_lt (okA_lt h)] at h1
  exact h1
theorem okA_mono {n m : Nat} {q : Nat × Nat} (hm : n ≤ m) (h : okA (PL.take n) q) : okA (PL.take m) q := by
  have h1 := okA_lt h
  have h2 : PL[ix q.1 q.2]? = some q := okA_PL h
  show (PL.take m)[ix q.1 q.2]? = some q
  rw [List.getElem?_take_of_lt (by omega)]
  exact h2
theorem okV_mono {n m : Nat} {v : Vl} (hm : n ≤ m) (h : okV (PL.take n) v) : okV (PL.take m) v := by
  rcases v with x | x | x | x | _ | q
  · trivial
  · trivial
  · trivial
  · trivial
  · trivial
  · exact okA_mono hm h
theorem take_okL (n : Nat) : okL (PL.take n) := by
  intro i q h
  have hlt : i < n := by
    have h1 := (List.getElem?_eq_some_iff.mp h).1
    rw [List.length_take] at h1
    omega
  rw [List.getElem?_take_of_lt hlt] at h
  exact PL_okL i q h
theorem zad_agr {n : Nat} {g g' : GG} (ha : agr n g g') {q : Nat × Nat} (h : okA (PL.take n) q) : zad g' q = zad g q := ha.2.2 _ (okA_lt h)
theorem mv_agr {n : Nat} {g g' : GG} (ha : agr n g g') {v : Vl} (h : okV (PL.take n) v) : mv g' v = mv g v := by
  rcases v with x | x | x | x | _ | q
  · rfl
  · rfl
  · rfl
  · rfl
  · rfl
  · show va_rf (some (zad g' q)) = va_rf (some (zad g q))
    rw [zad_agr ha h]
theorem mvs_agr {n : Nat} {g g' : GG} (ha : agr n g g') {st : List Vl} (h : ∀ v ∈ st, okV (PL.take n) v) : st.map (mv g') = st.map (mv g) := List.map_congr_left (fun v hv => mv_agr ha (h v hv))
theorem mvl_agr {n : Nat} {g g' : GG} (ha : agr n g g') {lv : Lv} (h : ∀ q ∈ lv, okV (PL.take n) q.2) : mvl g' lv = mvl g lv := List.map_congr_left (fun q hq => by rw [mv_agr ha (h q hq)])
theorem dR_ok {n : Nat} {WR : WRl} (h : ∀ e ∈ WR, okA (PL.take n) (e.1, e.2.1) ∧ okA (PL.take n) e.2.2.2) {b o k : Nat} {q : Nat × Nat} (hq : dR WR b o k = some q) : okA (PL.take n) (b, o) ∧ okA (PL.take n) q := by
  induction WR with
  | nil => cases hq
  | cons e r ih =>
    obtain ⟨b1, o1, k1, q1⟩ := e
    unfold dR wR at hq
    by_cases hc : b = b1 ∧ o = o1 ∧ k = k1
    · rw [if_pos hc] at hq
      cases hq
      obtain ⟨rfl, rfl, rfl⟩ := hc
      exact h _ List.mem_cons_self
    · rw [if_neg hc] at hq
      exact ih (fun e he => h e (List.mem_cons_of_mem _ he)) hq
theorem dI_new {n : Nat} {WI : WIl} (h : ∀ e ∈ WI, okA (PL.take n) (e.1, e.2.1)) {b o : Nat} (hq : ¬ okA (PL.take n) (b, o)) : dI WI b o = fun _ => 0 := by
  induction WI with
  | nil => rfl
  | cons e r ih =>
    obtain ⟨b1, o1, k1, x1⟩ := e
    show wI (dI r) b1 o1 k1 x1 b o = _
    rw [wI_ne (fun z => hq (by rw [z.1, z.2]; exact h _ List.mem_cons_self)), ih (fun e he => h e (List.mem_cons_of_mem _ he))]
theorem dR_new {n : Nat} {WR : WRl} (h : ∀ e ∈ WR, okA (PL.take n) (e.1, e.2.1) ∧ okA (PL.take n) e.2.2.2) {b o : Nat} (hq : ¬ okA (PL.take n) (b, o)) : dR WR b o = fun _ => none := by
  funext k
  cases hc : dR WR b o k with
  | none => rfl
  | some q => exact absurd (dR_ok h hc).1 hq
theorem zfv_agr {n : Nat} {g g' : GG} (ha : agr n g g') {WR : WRl} (h : ∀ e ∈ WR, okA (PL.take n) (e.1, e.2.1) ∧ okA (PL.take n) e.2.2.2) {I : IM} {F : FM} {b o k t : Nat} : zfv g' (dR WR) I F b o k t = zfv g (dR WR) I F b o k t := by
  match t with
  | 0 => rfl
  | 1 => rfl
  | t + 2 =>
    show va_rf ((dR WR b o k).map (zad g')) = va_rf ((dR WR b o k).map (zad g))
    cases hq : dR WR b o k with
    | none => rfl
    | some q =>
      show va_rf (some (zad g' q)) = va_rf (some (zad g q))
      rw [zad_agr ha (dR_ok h hq).2]
theorem zcl_agr {n : Nat} {g g' : GG} (ha : agr n g g') {WR : WRl} (h : ∀ e ∈ WR, okA (PL.take n) (e.1, e.2.1) ∧ okA (PL.take n) e.2.2.2) {I : IM} {F : FM} {b o : Nat} : zcl g' (dR WR) I F b o = zcl g (dR WR) I F b o := by
  have hr : (fun k => (dR WR b o k).map (zad g')) = fun k => (dR WR b o k).map (zad g) := by
    funext k
    cases hq : dR WR b o k with
    | none => rfl
    | some q =>
      show some (zad g' q) = some (zad g q)
      rw [zad_agr ha (dR_ok h hq).2]
  unfold zcl zce
  simp only [zfv_agr ha h, ha.2.1, hr]
theorem AW_agr {n : Nat} {g g' : GG} (ha : agr n g g') {WI : WIl} {WR : WRl} (h : InvA n WI WR) : AW g' n WI WR = AW g n WI WR := by
  unfold AW wsL
  apply List.map_congr_left
  intro q hq
  obtain ⟨i, hi⟩ := List.getElem?_of_mem hq
  have hix := take_okL n i q hi
  have hok : okA (PL.take n) q := by
    show (PL.take n)[ix q.1 q.2]? = some q
    rw [hix]
    exact hi
  rw [zad_agr ha hok, zcl_agr ha h.2]
/-- the cell that is made next -/
theorem AW_push {n : Nat} {g g' : GG} (ha : agr n g g') {WI : WIl} {WR : WRl} (h : InvA n WI WR) {b o q : Nat} (hp : PL[n]? = some (b, o)) (hq : g'.2.2 n = q) : AW g' (n + 1) WI WR = AW g n WI WR ++ [(q, zcl g' (dR WR) (dI WI) Fz b o)] := by
  have hl : n < PL.length := (List.getElem?_eq_some_iff.mp hp).1
  have ht : PL.take (n + 1) = PL.take n ++ [(b, o)] := by
    rw [List.take_succ, hp]
    rfl
  rw [← AW_agr ha h]
  unfold AW wsL
  rw [ht, List.map_append]
  have hix : ix b o = n := PL_okL n (b, o) hp
  show _ ++ [(zad g' (b, o), _)] = _
  rw [show zad g' (b, o) = q by unfold zad; rw [hix, hq]]
theorem new_not {n : Nat} {b o : Nat} (hp : PL[n]? = some (b, o)) : ¬ okA (PL.take n) (b, o) := fun h => by
  have h1 := okA_lt h
  have h2 : ix b o = n := PL_okL n (b, o) hp
  rw [h2] at h1
  omega
theorem new_ok {n : Nat} {b o : Nat} (hp : PL[n]? = some (b, o)) : okA (PL.take (n + 1)) (b, o) := by
  have h2 : ix b o = n := PL_okL n (b, o) hp
  show (PL.take (n + 1))[ix b o]? = some (b, o)
  rw [h2, List.getElem?_take_of_lt (by omega)]
  exact hp
theorem InvA.mono {n m : Nat} {WI : WIl} {WR : WRl} (hm : n ≤ m) (h : InvA n WI WR) : InvA m WI WR := ⟨fun e he => okA_mono hm (h.1 e he), fun e he => ⟨okA_mono hm (h.2 e he).1, okA_mono hm (h.2 e he).2⟩⟩
theorem SZ_succ {n b o : Nat} (hp : PL[n]? = some (b, o)) : SZ (n + 1) = SZ n + zsz b o := by
  unfold SZ
  rw [List.take_succ, hp, List.map_append, List.sum_append]
  simp
def gset (g : GG) (n q : Nat) : GG := (g.1, g.2.1, fun i => if i = n then q else g.2.2 i)
theorem gset_agr {g : GG} {n q : Nat} : agr n g (gset g n q) := ⟨rfl, rfl, fun i hi => by show (if i = n then q else g.2.2 i) = g.2.2 i; rw [if_neg (by omega)]⟩
theorem gset_at {g : GG} {n q : Nat} : (gset g n q).2.2 n = q := by show (if n = n then q else g.2.2 n) = q; rw [if_pos rfl]
theorem zobj_new {g : GG} {WI : WIl} {WR : WRl} {b o c : Nat} (hc : K0 b o = (0, c)) (hI : dI WI b o = fun _ => 0) (hR : dR WR b o = fun _ => none) : zcl g (dR WR) (dI WI) Fz b o = .inr (c, (nth zFT c []).map (fun t => match t with | 0 => Value.int 0 | 1 => Value.float 0 | _ => Value.null)) := by
  rw [zcl_obj hc]
  congr 2
  apply List.ext_getElem?
  intro i
  rw [List.getElem?_mapIdx, List.getElem?_map]
  cases (nth zFT c [])[i]? with
  | none => rfl
  | some t =>
    match t with
    | 0 => simp [zfv, hI]
    | 1 => simp [zfv, Fz]
    | t + 2 => simp [zfv, hR, va_rf]
/-- from here on the constructor comes to its end, with n1 cells made in all -/
def FromA (mr : MR) (pc : Nat) (lv : Lv) (st : List Vl) (n : Nat) (WI : WIl) (WR : WRl) (n1 : Nat) (WI1 : WIl) (WR1 : WRl) : Prop := (n ≤ n1 ∧ SZ n ≤ SZ n1) ∧
  ∀ (g : GG) (p : Program) (l : Launch) (e : Env) (R : Room) (s : State) (m : MethodId) (args : Array Value) (below : List Frame) (meth : Method) (c : Code) (H : Heap) (locs : List Loc) (cells slots : Nat) (A : Nat → Prop) (Q : State → Prop) (ls : Array Slot),
    CallFix p m c mr.2.1 mr.2.2.1 s args lw_gd mr.1.cls → NstOK s → va_AO "StartLedger$State" s → meth.name = "<init>" →
    va_K g.1 vwCl (tyG g) s → InvA n WI WR → va_P g.1 vwCl (AW g n WI WR) H → va_D A (AW g n WI WR) → va_S A s.heap H locs → (∀ q, s.heap.size ≤ q → A q) →
    lv_has ls mr.2.2.1 (mvl g lv) → (∀ q ∈ lv, okV (PL.take n) q.2) → (∀ v ∈ st, okV (PL.take n) v) →
    mr.2.2.2.2.2.1 ≤ R.frames → mr.2.2.2.2.2.2 ≤ R.locals → cells + (n1 - n) ≤ R.cells → slots + (SZ n1 - SZ n) ≤ R.slots →
    (∀ (g1 : GG) (H' : Heap) (locs' : List Loc) (ls' : Array Slot) (pc' : Nat), agr n g g1 → InvA n1 WI1 WR1 → va_P g1.1 vwCl (AW g1 n1 WI1 WR1) H' → va_D A (AW g1 n1 WI1 WR1) → va_S A s.heap H' locs' → decode mr.2.1 pc' = .ok (.return_, 1) →
      W p l e R s m args below meth c H' locs' (cells + (n1 - n)) (slots + (SZ n1 - SZ n)) Q (F0 m pc' ls' [])) →
    W p l e R s m args below meth c H locs cells slots Q (F0 m pc ls (st.map (mv g)))
section ZA
variable {mr : MR} {pc : Nat} {lv : Lv} {st : List Vl} {n n1 : Nat} {WI WI1 : WIl} {WR WR1 : WRl}
theorem vcons {v : Vl} {st : List Vl} (hv : okV (PL.take n) v) (h : ∀ u ∈ st, okV (PL.take n) u) : ∀ u ∈ v :: st, okV (PL.take n) u := List.forall_mem_cons.mpr ⟨hv, h⟩
theorem vtl {v : Vl} {st : List Vl} (h : ∀ u ∈ v :: st, okV (PL.take n) u) : ∀ u ∈ st, okV (PL.take n) u := (List.forall_mem_cons.mp h).2
theorem vhd {v : Vl} {st : List Vl} (h : ∀ u ∈ v :: st, okV (PL.take n) u) : okV (PL.take n) v := (List.forall_mem_cons.mp h).1
theorem vd1 {i : Nat} {lv : Lv} (h : ∀ q ∈ lv, okV (PL.take n) q.2) : ∀ q ∈ d1 i lv, okV (PL.take n) q.2 := by
  induction lv with
  | nil => exact h
  | cons a r ih =>
    obtain ⟨j, u⟩ := a
    have hr : ∀ q ∈ r, okV (PL.take n) q.2 := fun q hq => h q (List.mem_cons_of_mem _ hq)
    intro q hq
    rw [show d1 i ((j, u) :: r) = cond (Nat.beq j i || (Nat.beq (j + 1) i && c2 u)) (d1 i r) ((j, u) :: d1 i r) from rfl] at hq
    cases hb : (Nat.beq j i || (Nat.beq (j + 1) i && c2 u)) with
    | true => rw [hb] at hq; exact ih hr q hq
    | false =>
      rw [hb] at hq
      rcases List.mem_cons.mp hq with rfl | hq
      · exact h _ List.mem_cons_self
      · exact ih hr q hq
theorem A_aload {j : Fin 4} {q : Nat × Nat} (hd : decode mr.2.1 pc = .ok (.aload_n j, 1)) (hx : lk lv j.val = some (vR (some q))) (k : FromA mr (pc + 1) lv (vR (some q) :: st) n WI WR n1 WI1 WR1) : FromA mr pc lv st n WI WR n1 WI1 WR1 := by
  refine ⟨k.1, ?_⟩
  intro g p l e R s m args below meth c H locs cells slots A Q ls S hN hO hnm hK hJ hP hD hS hA hl hV hs hfr hlo hce hsl hend
  exact lv_aload_n S.1 S.2.1 hd rfl (lk_ls hl hx) (k.2 g p l e R s m args below meth c H locs cells slots A Q ls S hN hO hnm hK hJ hP hD hS hA hl hV (vcons (hV _ (lk_mem hx)) hs) hfr hlo hce hsl hend)
theorem A_iload {j : Fin 4} {x : Int32} (hd : decode mr.2.1 pc = .ok (.iload_n j, 1)) (hx : lk lv j.val = some (vI x)) (k : FromA mr (pc + 1) lv (vI x :: st) n WI WR n1 WI1 WR1) : FromA mr pc lv st n WI WR n1 WI1 WR1 := by
  refine ⟨k.1, ?_⟩
  intro g p l e R s m args below meth c H locs cells slots A Q ls S hN hO hnm hK hJ hP hD hS hA hl hV hs hfr hlo hce hsl hend
  exact lv_iload_n S.1 S.2.1 hd rfl (lk_ls hl hx) (k.2 g p l e R s m args below meth c H locs cells slots A Q ls S hN hO hnm hK hJ hP hD hS hA hl hV (vcons trivial hs) hfr hlo hce hsl hend)
theorem A_istore {j : Fin 4} {x : Int32} (hd : decode mr.2.1 pc = .ok (.istore_n j, 1)) (hj : j.val < mr.2.2.1) (k : FromA mr (pc + 1) ((j.val, vI x) :: d1 j.val lv) st n WI WR n1 WI1 WR1) : FromA mr pc lv (vI x :: st) n WI WR n1 WI1 WR1 := by
  refine ⟨k.1, ?_⟩
  intro g p l e R s m args below meth c H locs cells slots A Q ls S hN hO hnm hK hJ hP hD hS hA hl hV hs hfr hlo hce hsl hend
  exact lv_istore_n (lv' := mvl g ((j.val, vI x) :: d1 j.val lv)) S.1 S.2.1 hd rfl hl hj (by rw [d1_map]; rfl) (fun ls hl => (k.2 g p l e R s m args below meth c H locs cells slots A Q ls S hN hO hnm hK hJ hP hD hS hA hl (List.forall_mem_cons.mpr ⟨trivial, vd1 hV⟩) (vtl hs) hfr hlo hce hsl hend))
theorem A_iinc {j : Nat} {i : Int} {x : Int32} (hd : decode mr.2.1 pc = .ok (.iinc j i, 3)) (hx : lk lv j = some (vI x)) (hv : Int32.ofInt i = ci i) (hj : j < mr.2.2.1) (k : FromA mr (pc + 3) ((j, vI (x + ci i)) :: d1 j lv) st n WI WR n1 WI1 WR1) : FromA mr pc lv st n WI WR n1 WI1 WR1 := by
  refine ⟨k.1, ?_⟩
  intro g p l e R s m args below meth c H locs cells slots A Q ls S hN hO hnm hK hJ hP hD hS hA hl hV hs hfr hlo hce hsl hend
  obtain ⟨i0, hi⟩ := List.getElem?_of_mem (List.mem_map.mpr ⟨(j, vI x), lk_mem hx, rfl⟩ : (j, mv g (vI x)) ∈ mvl g lv)
  exact lv_iinc (lv' := mvl g ((j, vI (x + ci i)) :: d1 j lv)) (v := x + ci i) (x := x) S.1 S.2.1 hd hl hi (by rw [hv]) hj (by rw [d1_map]; rfl) (fun ls hl => (k.2 g p l e R s m args below meth c H locs cells slots A Q ls S hN hO hnm hK hJ hP hD hS hA hl (List.forall_mem_cons.mpr ⟨trivial, vd1 hV⟩) hs hfr hlo hce hsl hend))
theorem A_iconst {i : Int} (hd : decode mr.2.1 pc = .ok (.iconst i, 1)) (hv : Int32.ofInt i = ci i) (k : FromA mr (pc + 1) lv (vI (ci i) :: st) n WI WR n1 WI1 WR1) : FromA mr pc lv st n WI WR n1 WI1 WR1 := by
  refine ⟨k.1, ?_⟩
  intro g p l e R s m args below meth c H locs cells slots A Q ls S hN hO hnm hK hJ hP hD hS hA hl hV hs hfr hlo hce hsl hend
  exact lv_iconst S.1 S.2.1 hd hv (k.2 g p l e R s m args below meth c H locs cells slots A Q ls S hN hO hnm hK hJ hP hD hS hA hl hV (vcons trivial hs) hfr hlo hce hsl hend)
theorem A_bipush {i : Int} (hd : decode mr.2.1 pc = .ok (.bipush i, 2)) (hv : (Int8.ofInt i).toInt32 = ci i) (k : FromA mr (pc + 2) lv (vI (ci i) :: st) n WI WR n1 WI1 WR1) : FromA mr pc lv st n WI WR n1 WI1 WR1 := by
  refine ⟨k.1, ?_⟩
  intro g p l e R s m args below meth c H locs cells slots A Q ls S hN hO hnm hK hJ hP hD hS hA hl hV hs hfr hlo hce hsl hend
  exact lv_bipush S.1 S.2.1 hd hv (k.2 g p l e R s m args below meth c H locs cells slots A Q ls S hN hO hnm hK hJ hP hD hS hA hl hV (vcons trivial hs) hfr hlo hce hsl hend)
theorem A_sipush {i : Int} (hd : decode mr.2.1 pc = .ok (.sipush i, 3)) (hv : (Int16.ofInt i).toInt32 = ci i) (k : FromA mr (pc + 3) lv (vI (ci i) :: st) n WI WR n1 WI1 WR1) : FromA mr pc lv st n WI WR n1 WI1 WR1 := by
  refine ⟨k.1, ?_⟩
  intro g p l e R s m args below meth c H locs cells slots A Q ls S hN hO hnm hK hJ hP hD hS hA hl hV hs hfr hlo hce hsl hend
  exact lv_sipush S.1 S.2.1 hd hv (k.2 g p l e R s m args below meth c H locs cells slots A Q ls S hN hO hnm hK hJ hP hD hS hA hl hV (vcons trivial hs) hfr hlo hce hsl hend)
theorem A_dup {q : Nat × Nat} (hd : decode mr.2.1 pc = .ok (.dup, 1)) (k : FromA mr (pc + 1) lv (vR (some q) :: vR (some q) :: st) n WI WR n1 WI1 WR1) : FromA mr pc lv (vR (some q) :: st) n WI WR n1 WI1 WR1 := by
  refine ⟨k.1, ?_⟩
  intro g p l e R s m args below meth c H locs cells slots A Q ls S hN hO hnm hK hJ hP hD hS hA hl hV hs hfr hlo hce hsl hend
  exact lv_dup S.1 S.2.1 hd rfl (k.2 g p l e R s m args below meth c H locs cells slots A Q ls S hN hO hnm hK hJ hP hD hS hA hl hV (vcons (vhd hs) hs) hfr hlo hce hsl hend)
theorem A_goto {off : Int} {t : Nat} (hd : decode mr.2.1 pc = .ok (.goto off, 3)) (ht : (pc : Int) + off = (t : Int)) (k : FromA mr t lv st n WI WR n1 WI1 WR1) : FromA mr pc lv st n WI WR n1 WI1 WR1 := by
  refine ⟨k.1, ?_⟩
  intro g p l e R s m args below meth c H locs cells slots A Q ls S hN hO hnm hK hJ hP hD hS hA hl hV hs hfr hlo hce hsl hend
  exact lv_goto S.1 S.2.1 hd ht (k.2 g p l e R s m args below meth c H locs cells slots A Q ls S hN hO hnm hK hJ hP hD hS hA hl hV hs hfr hlo hce hsl hend)
theorem A_ge {off : Int} {t : Nat} {x y : Int32} (hd : decode mr.2.1 pc = .ok (.if_icmp .ge off, 3)) (ht : (pc : Int) + off = (t : Int)) (hc : y ≤ x) (k : FromA mr t lv st n WI WR n1 WI1 WR1) : FromA mr pc lv (vI y :: vI x :: st) n WI WR n1 WI1 WR1 := by
  refine ⟨k.1, ?_⟩
  intro g p l e R s m args below meth c H locs cells slots A Q ls S hN hO hnm hK hJ hP hD hS hA hl hV hs hfr hlo hce hsl hend
  exact lv_icmp_ge S.1 S.2.1 hd ht (fun _ => (k.2 g p l e R s m args below meth c H locs cells slots A Q ls S hN hO hnm hK hJ hP hD hS hA hl hV (vtl (vtl hs)) hfr hlo hce hsl hend)) (fun h => absurd hc h)
theorem A_nge {off : Int} {t : Nat} {x y : Int32} (hd : decode mr.2.1 pc = .ok (.if_icmp .ge off, 3)) (ht : (pc : Int) + off = (t : Int)) (hc : ¬ y ≤ x) (k : FromA mr (pc + 3) lv st n WI WR n1 WI1 WR1) : FromA mr pc lv (vI y :: vI x :: st) n WI WR n1 WI1 WR1 := by
  refine ⟨k.1, ?_⟩
  intro g p l e R s m args below meth c H locs cells slots A Q ls S hN hO hnm hK hJ hP hD hS hA hl hV hs hfr hlo hce hsl hend
  exact lv_icmp_ge S.1 S.2.1 hd ht (fun h => absurd h hc) (fun _ => (k.2 g p l e R s m args below meth c H locs cells slots A Q ls S hN hO hnm hK hJ hP hD hS hA hl hV (vtl (vtl hs)) hfr hlo hce hsl hend))
theorem A_getR {idx ci0 f b o N : Nat} {C : String} {T : u_T} {t : Nat} {q : Nat × Nat} (hc : vwCl[ci0]? = some (C, T, N)) (hf : f < N) (hw : Cond.fieldLink mr.1.cls idx (T f).1 (T f).2.1 (T f).2.2.1 ∈ lw_gd) (hk : K0 b o = (0, ci0)) (ht : (nth zFT ci0 [])[f]? = some (t + 2)) (hq : dR WR b o f = some q) (hd : decode mr.2.1 pc = .ok (.getfield idx, 3)) (k : FromA mr (pc + 3) lv (vR (some q) :: st) n WI WR n1 WI1 WR1) : FromA mr pc lv (vR (some (b, o)) :: st) n WI WR n1 WI1 WR1 := by
  refine ⟨k.1, ?_⟩
  intro g p l e R s m args below meth c H locs cells slots A Q ls S hN hO hnm hK hJ hP hD hS hA hl hV hs hfr hlo hce hsl hend
  exact va_get (q0 := ix b o) (k := f) (v := va_rf (some (zad g q))) S.1 S.2.1 S.2.2.2.2 (zCls_all _ _ _ _ hc).1 S.2.2.2.1 hK hP (by unfold AW; rw [wsL_get (vhd hs), zcl_obj hk]) hc hf (S.2.2.2.2 _ hw) (fun _ h => h) (by rw [List.getElem?_mapIdx, ht]; show some (va_rf ((dR WR b o f).map (zad g))) = _; rw [hq]; rfl) hd (k.2 g p l e R s m args below meth c H locs cells slots A Q ls S hN hO hnm hK hJ hP hD hS hA hl hV (vcons (dR_ok hJ.2 hq).2 (vtl hs)) hfr hlo hce hsl hend)
theorem zobj_putR {g : GG} {R : RM} {I : IM} {F : FM} {b o c k t : Nat} {q : Nat × Nat} (hc : K0 b o = (0, c)) (ht : (nth zFT c [])[k]? = some (t + 2)) : zcl g (wR R b o k q) I F b o = .inr (c, ((nth zFT c []).mapIdx (fun k t => zfv g R I F b o k t)).set k (.ref (zad g q))) := by
  unfold zcl
  rw [hc]
  show (.inr (c, _) : va_E) = _
  congr 2
  apply List.ext_getElem?
  intro i
  by_cases hi : i = k
  · subst hi
    have hl := (List.getElem?_eq_some_iff.mp ht).1
    rw [List.getElem?_set_self (by simpa using hl), List.getElem?_mapIdx, ht]
    simp [zfv, wR, va_rf]
  · rw [List.getElem?_set_ne (fun q => hi q.symm), List.getElem?_mapIdx, List.getElem?_mapIdx]
    cases (nth zFT c [])[i]? with
    | none => rfl
    | some t =>
      match t with
      | 0 => rfl
      | 1 => rfl
      | t + 2 => simp [zfv, wR, hi]
theorem wR_ne {R : RM} {b o k : Nat} {q : Nat × Nat} {b' o' : Nat} (h : ¬ (b' = b ∧ o' = o)) : wR R b o k q b' o' = R b' o' := by
  funext j
  unfold wR
  rw [if_neg (fun z => h ⟨z.1, z.2.1⟩)]
theorem A_putI {idx ci0 f b o N : Nat} {C : String} {T : u_T} {x : Int32} (hc : vwCl[ci0]? = some (C, T, N)) (hf : f < N) (hw : Cond.fieldLink mr.1.cls idx (T f).1 (T f).2.1 (T f).2.2.1 ∈ lw_gd) (hk : K0 b o = (0, ci0)) (ht : (nth zFT ci0 [])[f]? = some 0) (hfin : (T f).2.2.2 = false) (hpd : parseFieldDescriptor (T f).2.2.1 = some .int) (hd : decode mr.2.1 pc = .ok (.putfield idx, 3)) (k : FromA mr (pc + 3) lv st n ((b, o, f, x) :: WI) WR n1 WI1 WR1) : FromA mr pc lv (vI x :: vR (some (b, o)) :: st) n WI WR n1 WI1 WR1 := by
  refine ⟨k.1, ?_⟩
  intro g p l e R s m args below meth c H locs cells slots A Q ls S hN hO hnm hK hJ hP hD hS hA hl hV hs hfr hlo hce hsl hend
  obtain ⟨ty0, hty⟩ := (zCls_all _ _ _ _ hc).2.1
  have hb : okA (PL.take n) (b, o) := vhd (vtl hs)
  refine va_put (q0 := ix b o) (k := f) (v := .int x) (ty := .int) S.1 S.2.1 S.2.2.2.2 (zCls_all _ _ _ _ hc).1 ty0 hty (zCls_all _ _ _ _ hc).2.2 S.2.2.2.1 hK hP hD hS (by unfold AW; rw [wsL_get hb, zcl_obj hk]) hc hf (S.2.2.2.2 _ hw) (fun _ h => h) hfin hpd (by rfl) (by rfl) (by simpa using (List.getElem?_eq_some_iff.mp ht).1) hd (fun H1 locs1 hP1 hD1 hS1 => ?_)
  unfold AW at hP1 hD1
  rw [wsL_set (R' := dR WR) (I' := wI (dI WI) b o f x) (F' := Fz) (take_okL n) hb (fun b' o' h => ⟨rfl, wI_ne h, rfl⟩) (zobj_putI hk ht)] at hP1 hD1
  exact (k.2 g p l e R s m args below meth c H1 locs1 cells slots A Q ls S hN hO hnm hK ⟨List.forall_mem_cons.mpr ⟨hb, hJ.1⟩, hJ.2⟩ hP1 hD1 hS1 hA hl hV (vtl (vtl hs)) hfr hlo hce hsl hend)
theorem A_putR {idx ci0 f b o N : Nat} {C : String} {T : u_T} {t : Nat} {q : Nat × Nat} {ty : FieldType} (hc : vwCl[ci0]? = some (C, T, N)) (hf : f < N) (hw : Cond.fieldLink mr.1.cls idx (T f).1 (T f).2.1 (T f).2.2.1 ∈ lw_gd) (hk : K0 b o = (0, ci0)) (ht : (nth zFT ci0 [])[f]? = some (t + 2)) (hfin : (T f).2.2.2 = true) (hpd : parseFieldDescriptor (T f).2.2.1 = some ty) (hnr : ∀ a, narrow ty (.ref a) = .ref a) (hft : ∀ a, fits ty (.ref a) = true) (hown2 : (T f).1 = mr.1.cls) (hd : decode mr.2.1 pc = .ok (.putfield idx, 3)) (k : FromA mr (pc + 3) lv st n WI ((b, o, f, q) :: WR) n1 WI1 WR1) : FromA mr pc lv (vR (some q) :: vR (some (b, o)) :: st) n WI WR n1 WI1 WR1 := by
  refine ⟨k.1, ?_⟩
  intro g p l e R s m args below meth c H locs cells slots A Q ls S hN hO hnm hK hJ hP hD hS hA hl hV hs hfr hlo hce hsl hend
  obtain ⟨ty0, hty⟩ := (zCls_all _ _ _ _ hc).2.1
  have hb : okA (PL.take n) (b, o) := vhd (vtl hs)
  refine va_putF (q0 := ix b o) (k := f) (v := .ref (zad g q)) (ty := ty) S.1 S.2.1 S.2.2.2.2 (zCls_all _ _ _ _ hc).1 ty0 hty (zCls_all _ _ _ _ hc).2.2 S.2.2.2.1 hK hP hD hS (by unfold AW; rw [wsL_get hb, zcl_obj hk]) hc hf (S.2.2.2.2 _ hw) (fun _ h => h) hfin hnm hown2 hpd (hnr _) (hft _) (by simpa using (List.getElem?_eq_some_iff.mp ht).1) hd (fun H1 locs1 hP1 hD1 hS1 => ?_)
  unfold AW at hP1 hD1
  rw [wsL_set (R' := wR (dR WR) b o f q) (I' := dI WI) (F' := Fz) (take_okL n) hb (fun b' o' h => ⟨wR_ne h, rfl, rfl⟩) (zobj_putR hk ht)] at hP1 hD1
  exact (k.2 g p l e R s m args below meth c H1 locs1 cells slots A Q ls S hN hO hnm hK ⟨hJ.1, List.forall_mem_cons.mpr ⟨⟨hb, vhd hs⟩, hJ.2⟩⟩ hP1 hD1 hS1 hA hl hV (vtl (vtl hs)) hfr hlo hce hsl hend)
theorem A_iast {b o m0 : Nat} {i x : Int32} (hk : K0 b o = (1, m0)) (hi : inb i m0) (hd : decode mr.2.1 pc = .ok (.iastore, 1)) (k : FromA mr (pc + 1) lv st n ((b, o, i.toNatClampNeg, x) :: WI) WR n1 WI1 WR1) : FromA mr pc lv (vI x :: vI i :: vR (some (b, o)) :: st) n WI WR n1 WI1 WR1 := by
  refine ⟨k.1, ?_⟩
  intro g p l e R s m args below meth c H locs cells slots A Q ls S hN hO hnm hK hJ hP hD hS hA hl hV hs hfr hlo hce hsl hend
  have hb : okA (PL.take n) (b, o) := vhd (vtl (vtl hs))
  refine va_iast (q0 := ix b o) (t0 := 0) S.1 S.2.1 hK hP hD hS (by unfold AW; rw [wsL_get hb, zcl_int hk]) rfl hi hd (fun H1 locs1 hP1 hD1 hS1 => ?_)
  unfold AW at hP1 hD1
  rw [wsL_set (R' := dR WR) (I' := wI (dI WI) b o i.toNatClampNeg x) (F' := Fz) (take_okL n) hb (fun b' o' h => ⟨rfl, wI_ne h, rfl⟩) (by rw [zcl_int hk, wI_self])] at hP1 hD1
  exact (k.2 g p l e R s m args below meth c H1 locs1 cells slots A Q ls S hN hO hnm hK ⟨List.forall_mem_cons.mpr ⟨hb, hJ.1⟩, hJ.2⟩ hP1 hD1 hS1 hA hl hV (vtl (vtl (vtl hs))) hfr hlo hce hsl hend)
theorem wR_self {R : RM} {b o k : Nat} {q : Nat × Nat} {g : GG} : (fun j => (wR R b o k q b o j).map (zad g)) = va_up (fun j => (R b o j).map (zad g)) k (some (zad g q)) := by
  funext j
  unfold wR va_up
  by_cases hj : j = k <;> simp [hj]
theorem A_aast {b o m0 b1 o1 : Nat} {i : Int32} (hk : K0 b o = (4, m0)) (hk1 : K0 b1 o1 = (0, 9)) (hi : inb i m0) (hd : decode mr.2.1 pc = .ok (.aastore, 1)) (k : FromA mr (pc + 1) lv st n WI ((b, o, i.toNatClampNeg, (b1, o1)) :: WR) n1 WI1 WR1) : FromA mr pc lv (vR (some (b1, o1)) :: vI i :: vR (some (b, o)) :: st) n WI WR n1 WI1 WR1 := by
  refine ⟨k.1, ?_⟩
  intro g p l e R s m args below meth c H locs cells slots A Q ls S hN hO hnm hK hJ hP hD hS hA hl hV hs hfr hlo hce hsl hend
  have hb : okA (PL.take n) (b, o) := vhd (vtl (vtl hs))
  have hb1 : okA (PL.take n) (b1, o1) := vhd hs
  refine va_astq (q0 := ix b o) (t0 := 3) (qk := ix b1 o1) (ci := 9) (r := (RX10, TX10, 7)) (v := zad g (b1, o1)) (f := fun j => (dR WR b o j).map (zad g)) S.1 S.2.1 hK hP hD hS (by unfold AW; rw [wsL_get hb, zcl_ref hk]) rfl (by unfold AW; rw [wsL_get hb1, zcl_obj hk1]) rfl hi hd (fun H1 locs1 hP1 hD1 hS1 => ?_)
  unfold AW at hP1 hD1
  rw [wsL_set (R' := wR (dR WR) b o i.toNatClampNeg (b1, o1)) (I' := dI WI) (F' := Fz) (take_okL n) hb (fun b' o' h => ⟨wR_ne h, rfl, rfl⟩) (by rw [zcl_ref hk, wR_self])] at hP1 hD1
  exact (k.2 g p l e R s m args below meth c H1 locs1 cells slots A Q ls S hN hO hnm hK ⟨hJ.1, List.forall_mem_cons.mpr ⟨⟨hb, hb1⟩, hJ.2⟩⟩ hP1 hD1 hS1 hA hl hV (vtl (vtl (vtl hs))) hfr hlo hce hsl hend)
/-- behind a cell that was made -/
theorem A_made {b o q : Nat} {g : GG} (hp : PL[n]? = some (b, o)) (hJ : InvA n WI WR) {e0 : va_E} (he : ∀ g' : GG, g'.2.1 = g.2.1 → zcl g' (dR WR) (dI WI) Fz b o = e0) : AW (gset g n q) (n + 1) WI WR = AW g n WI WR ++ [(q, e0)] := by
  rw [AW_push gset_agr hJ hp gset_at, he (gset g n q) rfl]
theorem A_new {idx ci0 b o N : Nat} {C : String} {T : u_T} (hp : PL[n]? = some (b, o)) (hc : vwCl[ci0]? = some (C, T, N)) (hk : K0 b o = (0, ci0)) (hN0 : (nth zFT ci0 []).length = N) (hty : ∀ j, j < N → ∃ ty, parseFieldDescriptor (T j).2.2.1 = some ty ∧ defaultValue ty = vp_V ((nth zFT ci0 []).map (fun t => match t with | 0 => Value.int 0 | 1 => Value.float 0 | _ => Value.null)) j) (w1 : Cond.classLink mr.1.cls idx C ∈ lw_gd) (w2 : Cond.instantiable C N ∈ lw_gd) (w3 : Cond.initialized C ∈ lw_gd) (hd : decode mr.2.1 pc = .ok (.new idx, 3)) (k : FromA mr (pc + 3) lv (vR (some (b, o)) :: st) (n + 1) WI WR n1 WI1 WR1) : FromA mr pc lv st n WI WR n1 WI1 WR1 := by
  have hz0 := SZ_succ hp
  refine ⟨⟨by have := k.1.1; omega, by have := k.1.2; omega⟩, ?_⟩
  intro g p l e R s m args below meth c H locs cells slots A Q ls S hN hO hnm hK hJ hP hD hS hA hl hV hs hfr hlo hce hsl hend
  have hzN : zsz b o = N := by unfold zsz; rw [hk]; exact hN0
  obtain ⟨ty0, hty0⟩ := (zCls_all _ _ _ _ hc).2.1
  refine va_new (ci := ci0) (fs := (nth zFT ci0 []).map (fun t => match t with | 0 => Value.int 0 | 1 => Value.float 0 | _ => Value.null)) S.1 S.2.1 S.2.2.2.2 (zCls_all _ _ _ _ hc).1 ty0 hty0 S.2.2.2.1 (S.2.2.2.2 _ w1) (S.2.2.2.2 _ w2) (S.2.2.2.2 _ w3) hK hP hD hS hA hc (fun j hj => by obtain ⟨ty, h1, h2⟩ := hty j hj; rw [hty0 j hj] at h1; cases h1; exact h2) (by have := k.1.1; omega) (by have := k.1.2; omega) hd (fun q H1 hP1 hD1 hS1 => ?_)
  have hz := SZ_succ hp
  have hk1 := k.1
  have ha : agr n g (gset g n q) := gset_agr
  rw [← A_made (g := g) (q := q) hp hJ (fun g' _ => zobj_new hk (dI_new hJ.1 (new_not hp)) (dR_new hJ.2 (new_not hp)))] at hP1 hD1
  have hl' : lv_has ls mr.2.2.1 (mvl (gset g n q) lv) := by rw [mvl_agr ha hV]; exact hl
  have hstk : (vR (some (b, o)) :: st).map (mv (gset g n q)) = .ref q :: (st).map (mv g) := by
    rw [List.map_cons, mvs_agr ha hs]
    show va_rf (some (zad (gset g n q) (b, o))) :: _ = _
    rw [show zad (gset g n q) (b, o) = q by unfold zad; rw [show ix b o = n from PL_okL n (b, o) hp, gset_at]]
    rfl
  rw [← hstk]
  refine k.2 (gset g n q) p l e R s m args below meth c H1 locs _ _ A Q ls S hN hO hnm hK (hJ.mono (by omega)) hP1 hD1 hS1 hA hl' (fun q hq => okV_mono (by omega) (hV q hq)) (vcons (new_ok hp) (fun v hv => okV_mono (by omega) (hs v hv))) hfr hlo (by omega) (by have := k.1.2; omega) (fun g1 H' locs' ls' pc' ha1 hJ1 hP' hD' hS' hd' => ?_)
  have hh := hend g1 H' locs' ls' pc' (ha.tr (by omega) ha1) hJ1 hP' hD' hS' hd'
  rw [show cells + (n1 - n) = cells + 1 + (n1 - (n + 1)) by omega, show slots + (SZ n1 - SZ n) = slots + N + (SZ n1 - SZ (n + 1)) by have := k.1.2; omega] at hh
  exact hh
theorem A_newI {b o N : Nat} {x : Int32} (hp : PL[n]? = some (b, o)) (hk : K0 b o = (1, N)) (hx : ¬ x < 0) (hxN : x.toNatClampNeg = N) (hN0 : N ≤ 100000) (w1 : Cond.arrayClass .int ∈ lw_gd) (hd : decode mr.2.1 pc = .ok (.newarray .int, 2)) (k : FromA mr (pc + 2) lv (vR (some (b, o)) :: st) (n + 1) WI WR n1 WI1 WR1) : FromA mr pc lv (vI x :: st) n WI WR n1 WI1 WR1 := by
  have hz0 := SZ_succ hp
  refine ⟨⟨by have := k.1.1; omega, by have := k.1.2; omega⟩, ?_⟩
  intro g p l e R s m args below meth c H locs cells slots A Q ls S hN hO hnm hK hJ hP hD hS hA hl hV hs hfr hlo hce hsl hend
  have hzN : zsz b o = N := by unfold zsz; rw [hk]; rfl
  refine va_newa (atype := .int) (ty := .int) (a0 := (N, .inl (fun _ => 0))) S.1 S.2.1 (S.2.2.2.2 _ w1) rfl hK hP hD hS hA (fun cA => rfl) hx hxN (by show N * 4 ≤ _; omega) (by have := k.1.1; omega) (by have := k.1.2; omega) hd (fun q cA H1 hK1 hP1 hD1 hS1 => ?_)
  have hcA : cA = g.2.1.1 := by
    have e1 := (hK.2 0 _ rfl).2
    have e2 := (hK1.2 4 _ rfl).2
    exact Option.some.inj (e2.symm.trans e1)
  subst hcA
  have hz := SZ_succ hp
  have hk1 := k.1
  have ha : agr n g (gset g n q) := gset_agr
  rw [← A_made (g := g) (q := q) hp hJ (fun g' hg => by rw [zcl_int hk, dI_new hJ.1 (new_not hp), hg])] at hP1 hD1
  have hl' : lv_has ls mr.2.2.1 (mvl (gset g n q) lv) := by rw [mvl_agr ha hV]; exact hl
  have hstk : (vR (some (b, o)) :: st).map (mv (gset g n q)) = .ref q :: (st).map (mv g) := by
    rw [List.map_cons, mvs_agr ha (vtl hs)]
    show va_rf (some (zad (gset g n q) (b, o))) :: _ = _
    rw [show zad (gset g n q) (b, o) = q by unfold zad; rw [show ix b o = n from PL_okL n (b, o) hp, gset_at]]
    rfl
  rw [← hstk]
  refine k.2 (gset g n q) p l e R s m args below meth c H1 locs _ _ A Q ls S hN hO hnm hK (hJ.mono (by omega)) hP1 hD1 hS1 hA hl' (fun q hq => okV_mono (by omega) (hV q hq)) (vcons (new_ok hp) (fun v hv => okV_mono (by omega) ((vtl hs) v hv))) hfr hlo (by omega) (by have := k.1.2; omega) (fun g1 H' locs' ls' pc' ha1 hJ1 hP' hD' hS' hd' => ?_)
  have hh := hend g1 H' locs' ls' pc' (ha.tr (by omega) ha1) hJ1 hP' hD' hS' hd'
  rw [show cells + (n1 - n) = cells + 1 + (n1 - (n + 1)) by omega, show slots + (SZ n1 - SZ n) = slots + N + (SZ n1 - SZ (n + 1)) by have := k.1.2; omega] at hh
  exact hh
theorem A_newZ {b o N : Nat} {x : Int32} (hp : PL[n]? = some (b, o)) (hk : K0 b o = (2, N)) (hx : ¬ x < 0) (hxN : x.toNatClampNeg = N) (hN0 : N ≤ 100000) (w1 : Cond.arrayClass .boolean ∈ lw_gd) (hd : decode mr.2.1 pc = .ok (.newarray .boolean, 2)) (k : FromA mr (pc + 2) lv (vR (some (b, o)) :: st) (n + 1) WI WR n1 WI1 WR1) : FromA mr pc lv (vI x :: st) n WI WR n1 WI1 WR1 := by
  have hz0 := SZ_succ hp
  refine ⟨⟨by have := k.1.1; omega, by have := k.1.2; omega⟩, ?_⟩
  intro g p l e R s m args below meth c H locs cells slots A Q ls S hN hO hnm hK hJ hP hD hS hA hl hV hs hfr hlo hce hsl hend
  have hzN : zsz b o = N := by unfold zsz; rw [hk]; rfl
  refine va_newa (atype := .boolean) (ty := .boolean) (a0 := (N, .inl (fun _ => 0))) S.1 S.2.1 (S.2.2.2.2 _ w1) rfl hK hP hD hS hA (fun cA => rfl) hx hxN (by show N * 1 ≤ _; omega) (by have := k.1.1; omega) (by have := k.1.2; omega) hd (fun q cA H1 hK1 hP1 hD1 hS1 => ?_)
  have hcA : cA = g.2.1.2.1 := by
    have e1 := (hK.2 1 _ rfl).2
    have e2 := (hK1.2 4 _ rfl).2
    exact Option.some.inj (e2.symm.trans e1)
  subst hcA
  have hz := SZ_succ hp
  have hk1 := k.1
  have ha : agr n g (gset g n q) := gset_agr
  rw [← A_made (g := g) (q := q) hp hJ (fun g' hg => by rw [zcl_bool hk, dI_new hJ.1 (new_not hp), hg])] at hP1 hD1
  have hl' : lv_has ls mr.2.2.1 (mvl (gset g n q) lv) := by rw [mvl_agr ha hV]; exact hl
  have hstk : (vR (some (b, o)) :: st).map (mv (gset g n q)) = .ref q :: (st).map (mv g) := by
    rw [List.map_cons, mvs_agr ha (vtl hs)]
    show va_rf (some (zad (gset g n q) (b, o))) :: _ = _
    rw [show zad (gset g n q) (b, o) = q by unfold zad; rw [show ix b o = n from PL_okL n (b, o) hp, gset_at]]
    rfl
  rw [← hstk]
  refine k.2 (gset g n q) p l e R s m args below meth c H1 locs _ _ A Q ls S hN hO hnm hK (hJ.mono (by omega)) hP1 hD1 hS1 hA hl' (fun q hq => okV_mono (by omega) (hV q hq)) (vcons (new_ok hp) (fun v hv => okV_mono (by omega) ((vtl hs) v hv))) hfr hlo (by omega) (by have := k.1.2; omega) (fun g1 H' locs' ls' pc' ha1 hJ1 hP' hD' hS' hd' => ?_)
  have hh := hend g1 H' locs' ls' pc' (ha.tr (by omega) ha1) hJ1 hP' hD' hS' hd'
  rw [show cells + (n1 - n) = cells + 1 + (n1 - (n + 1)) by omega, show slots + (SZ n1 - SZ n) = slots + N + (SZ n1 - SZ (n + 1)) by have := k.1.2; omega] at hh
  exact hh
theorem A_newF {b o N : Nat} {x : Int32} (hp : PL[n]? = some (b, o)) (hk : K0 b o = (3, N)) (hx : ¬ x < 0) (hxN : x.toNatClampNeg = N) (hN0 : N ≤ 100000) (w1 : Cond.arrayClass .float ∈ lw_gd) (hd : decode mr.2.1 pc = .ok (.newarray .float, 2)) (k : FromA mr (pc + 2) lv (vR (some (b, o)) :: st) (n + 1) WI WR n1 WI1 WR1) : FromA mr pc lv (vI x :: st) n WI WR n1 WI1 WR1 := by
  have hz0 := SZ_succ hp
  refine ⟨⟨by have := k.1.1; omega, by have := k.1.2; omega⟩, ?_⟩
  intro g p l e R s m args below meth c H locs cells slots A Q ls S hN hO hnm hK hJ hP hD hS hA hl hV hs hfr hlo hce hsl hend
  have hzN : zsz b o = N := by unfold zsz; rw [hk]; rfl
  refine va_newa (atype := .float) (ty := .float) (a0 := (N, .inr (.inr (.inl (fun _ => 0))))) S.1 S.2.1 (S.2.2.2.2 _ w1) rfl hK hP hD hS hA (fun cA => rfl) hx hxN (by show N * 4 ≤ _; omega) (by have := k.1.1; omega) (by have := k.1.2; omega) hd (fun q cA H1 hK1 hP1 hD1 hS1 => ?_)
  have hcA : cA = g.2.1.2.2.1 := by
    have e1 := (hK.2 2 _ rfl).2
    have e2 := (hK1.2 4 _ rfl).2
    exact Option.some.inj (e2.symm.trans e1)
  subst hcA
  have hz := SZ_succ hp
  have hk1 := k.1
  have ha : agr n g (gset g n q) := gset_agr
  rw [← A_made (g := g) (q := q) hp hJ (fun g' hg => by rw [zcl_flt hk, show Fz b o = fun _ => 0 from rfl, hg])] at hP1 hD1
  have hl' : lv_has ls mr.2.2.1 (mvl (gset g n q) lv) := by rw [mvl_agr ha hV]; exact hl
  have hstk : (vR (some (b, o)) :: st).map (mv (gset g n q)) = .ref q :: (st).map (mv g) := by
    rw [List.map_cons, mvs_agr ha (vtl hs)]
    show va_rf (some (zad (gset g n q) (b, o))) :: _ = _
    rw [show zad (gset g n q) (b, o) = q by unfold zad; rw [show ix b o = n from PL_okL n (b, o) hp, gset_at]]
    rfl
  rw [← hstk]
  refine k.2 (gset g n q) p l e R s m args below meth c H1 locs _ _ A Q ls S hN hO hnm hK (hJ.mono (by omega)) hP1 hD1 hS1 hA hl' (fun q hq => okV_mono (by omega) (hV q hq)) (vcons (new_ok hp) (fun v hv => okV_mono (by omega) ((vtl hs) v hv))) hfr hlo (by omega) (by have := k.1.2; omega) (fun g1 H' locs' ls' pc' ha1 hJ1 hP' hD' hS' hd' => ?_)
  have hh := hend g1 H' locs' ls' pc' (ha.tr (by omega) ha1) hJ1 hP' hD' hS' hd'
  rw [show cells + (n1 - n) = cells + 1 + (n1 - (n + 1)) by omega, show slots + (SZ n1 - SZ n) = slots + N + (SZ n1 - SZ (n + 1)) by have := k.1.2; omega] at hh
  exact hh
theorem A_newR {idx b o N : Nat} {x : Int32} (hp : PL[n]? = some (b, o)) (hk : K0 b o = (4, N)) (hx : ¬ x < 0) (hxN : x.toNatClampNeg = N) (hN0 : N ≤ 100000) (w1 : Cond.classLink mr.1.cls idx "StartLedger$State" ∈ lw_gd) (hd : decode mr.2.1 pc = .ok (.anewarray idx, 3)) (k : FromA mr (pc + 3) lv (vR (some (b, o)) :: st) (n + 1) WI WR n1 WI1 WR1) : FromA mr pc lv (vI x :: st) n WI WR n1 WI1 WR1 := by
  have hz0 := SZ_succ hp
  refine ⟨⟨by have := k.1.1; omega, by have := k.1.2; omega⟩, ?_⟩
  intro g p l e R s m args below meth c H locs cells slots A Q ls S hN hO hnm hK hJ hP hD hS hA hl hV hs hfr hlo hce hsl hend
  have hzN : zsz b o = N := by unfold zsz; rw [hk]; rfl
  refine va_newq (C := "StartLedger$State") S.1 S.2.1 S.2.2.2.1 (S.2.2.2.2 _ w1) hO hK hP hD hS hA hx hxN (by omega) (by have := k.1.1; omega) (by have := k.1.2; omega) hd (fun q cA H1 hK1 hP1 hD1 hS1 => ?_)
  have hcA : cA = g.2.1.2.2.2 := by
    obtain ⟨_, _, -, -, -, e1⟩ := (hK.2 3 _ rfl).2
    obtain ⟨_, _, -, -, -, e2⟩ := (hK1.2 4 _ rfl).2
    exact Option.some.inj (e2.symm.trans e1)
  subst hcA
  have hz := SZ_succ hp
  have hk1 := k.1
  have ha : agr n g (gset g n q) := gset_agr
  rw [← A_made (g := g) (q := q) hp hJ (fun g' hg => by rw [zcl_ref hk, dR_new hJ.2 (new_not hp), hg]; rfl)] at hP1 hD1
  have hl' : lv_has ls mr.2.2.1 (mvl (gset g n q) lv) := by rw [mvl_agr ha hV]; exact hl
  have hstk : (vR (some (b, o)) :: st).map (mv (gset g n q)) = .ref q :: (st).map (mv g) := by
    rw [List.map_cons, mvs_agr ha (vtl hs)]
    show va_rf (some (zad (gset g n q) (b, o))) :: _ = _
    rw [show zad (gset g n q) (b, o) = q by unfold zad; rw [show ix b o = n from PL_okL n (b, o) hp, gset_at]]
    rfl
  rw [← hstk]
  refine k.2 (gset g n q) p l e R s m args below meth c H1 locs _ _ A Q ls S hN hO hnm hK (hJ.mono (by omega)) hP1 hD1 hS1 hA hl' (fun q hq => okV_mono (by omega) (hV q hq)) (vcons (new_ok hp) (fun v hv => okV_mono (by omega) ((vtl hs) v hv))) hfr hlo (by omega) (by have := k.1.2; omega) (fun g1 H' locs' ls' pc' ha1 hJ1 hP' hD' hS' hd' => ?_)
  have hh := hend g1 H' locs' ls' pc' (ha.tr (by omega) ha1) hJ1 hP' hD' hS' hd'
  rw [show cells + (n1 - n) = cells + 1 + (n1 - (n + 1)) by omega, show slots + (SZ n1 - SZ n) = slots + N + (SZ n1 - SZ (n + 1)) by have := k.1.2; omega] at hh
  exact hh
theorem A_obj {idx : Nat} {q : Nat × Nat} (w1 : Cond.methodLink mr.1.cls idx objectInit ∈ lw_gd) (w2 : Cond.instanceMethod objectInit ∈ lw_gd) (w3 : Cond.code objectInit ⟨#[0xb1]⟩ 1 none ∈ lw_gd) (hf0 : 1 ≤ mr.2.2.2.2.2.1) (hl0 : 20 ≤ mr.2.2.2.2.2.2) (hst : st.length ≤ 4) (hd : decode mr.2.1 pc = .ok (.invokespecial idx, 3)) (k : FromA mr (pc + 3) lv st n WI WR n1 WI1 WR1) : FromA mr pc lv (vR (some q) :: st) n WI WR n1 WI1 WR1 := by
  refine ⟨k.1, ?_⟩
  intro g p l e R s m args below meth c H locs cells slots A Q ls S hN hO hnm hK hJ hP hD hS hA hl hV hs hfr hlo hce hsl hend
  have hts := S.2.2.2.2
  have h8 := z_rest (g := g) (n := 4) hst
  exact W.objInit S.1 S.2.1 S.2.2.2.1 (hts _ w1) (hts _ w2) (hts _ w3) rfl (by rw [S.2.2.1]; exact hl.1) (a := zad g q) (rest := st.map (mv g)) rfl hd (Nat.le_trans hf0 hfr) (by show 2 * 0 + _ + 12 ≤ _; omega) (k.2 g p l e R s m args below meth c H locs cells slots A Q ls S hN hO hnm hK hJ hP hD hS hA hl hV (vtl hs) hfr hlo hce hsl hend)
theorem A_ret (hd : decode mr.2.1 pc = .ok (.return_, 1)) : FromA mr pc lv [] n WI WR n WI WR := by
  refine ⟨⟨Nat.le_refl _, Nat.le_refl _⟩, ?_⟩
  intro g p l e R s m args below meth c H locs cells slots A Q ls S hN hO hnm hK hJ hP hD hS hA hl hV hs hfr hlo hce hsl hend
  have h := hend g H locs ls pc agr.rf hJ hP hD hS hd
  rw [Nat.sub_self, Nat.sub_self] at h
  exact h
end ZA
