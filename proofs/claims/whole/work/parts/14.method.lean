/-! FROM AN INSTRUCTION TO A METHOD -/
theorem FromOK_sub {mr : MR} {pc : Nat} {lv lv' : Lv} {st : List Vl} {I : IM} {F : FM} {r : Rs} (hsub : ∀ q ∈ lv', q ∈ lv) (h : FromOK mr pc lv' st I F r) : FromOK mr pc lv st I F r := by
  intro g p l e R s m args below meth c H locs cells slots A Q ls S hN hK hP hD hS hl hV hs hfr hlo hce hsl hend
  refine h g p l e R s m args below meth c H locs cells slots A Q ls S hN hK hP hD hS ⟨hl.1, hl.2.1, fun q hq => ?_⟩ (fun q hq => hV q (hsub q hq)) hs hfr hlo hce hsl hend
  obtain ⟨a, ha, rfl⟩ := List.mem_map.mp hq
  exact hl.2.2 _ (List.mem_map.mpr ⟨a, hsub a ha, rfl⟩)
theorem lks_spec {lv : Lv} : ∀ {live : List Nat} {vs : List Vl}, lks lv live = some vs → vs.length = live.length ∧ ∀ q ∈ live.zip vs, q ∈ lv
  | [], vs, h => by cases h; exact ⟨rfl, fun q hq => by cases hq⟩
  | i :: live, vs, h => by
    unfold lks at h
    split at h
    · rename_i v us h1 h2
      cases h
      obtain ⟨e1, e2⟩ := lks_spec h2
      refine ⟨by rw [List.length_cons, List.length_cons, e1], fun q hq => ?_⟩
      rw [List.zip_cons_cons] at hq
      rcases List.mem_cons.mp hq with rfl | hq
      · exact lk_mem h1
      · exact e2 q hq
    · cases h
def SoundL (mr : MR) (full : Cd) (gl : GC) : Prop := ∀ (e : Ent) (tl : Cd) (live : List Nat) (vs st : List Vl) (I : IM) (F : FM) (r : Rs), AtPc full (e :: tl) e.1 → e.2.1 = some live → vs.length = live.length → gl e.1 (vs ++ st) I F = some r → FromOK mr e.1 (live.zip vs) st I F r
theorem seg_sound {gc gl : GC} (hcd : ∀ y, CW (zM y)) (hgc : SoundC gc) {mr : MR} {full : Cd} (hch : chain full = true) (hok : ∀ e ∈ full, ∃ q, okE mr e q = true) (hgl : SoundL mr full gl) : ∀ (n : Nat) (chk : Bool) (cur : Cd) (pc : Nat) (lv : Lv) (st : List Vl) (I : IM) (F : FM) (r : Rs), AtPc full cur pc → seg gc gl mr.2.2.2.2.1 full n chk cur lv st I F = some r → FromOK mr pc lv st I F r := by
  intro n
  induction n with
  | zero => intro chk cur pc lv st I F r _ h; cases h
  | succ n ih =>
    intro chk cur pc lv st I F r hat h
    match cur, hat, h with
    | [], _, h => cases h
    | (pc', hd, ins, len, aux, z) :: tl, hat, h =>
      have hpc : pc' = pc := hat.2 _ _ rfl
      subst hpc
      have hmem : (pc', hd, ins, len, aux, z) ∈ full := by
        obtain ⟨⟨pre, hp⟩, -⟩ := hat
        rw [hp]
        exact List.mem_append_right _ List.mem_cons_self
      have go : ∀ h : ex gc mr.2.2.2.2.1 full (seg gc gl mr.2.2.2.2.1 full n true) ins aux z tl lv st I F = some r, FromOK mr pc' lv st I F r := by
        intro h
        obtain ⟨q, hq⟩ := hok _ hmem
        unfold okE at hq
        rw [Bool.and_eq_true, Bool.and_eq_true] at hq
        exact ex_sound hcd hgc (fun cur pc lv st I F r hat h => ih true cur pc lv st I F r hat h) (of_decide_eq_true hq.1) hq.2.1 hq.2.2 (at_tl hch hat) h
      match chk, hd, hat, hmem, h, go with
      | true, some live, hat, _, h, _ =>
        have h' : (match lks lv live with | some vs => gl pc' (vs ++ st) I F | none => none) = some r := h
        cases hl : lks lv live with
        | none => rw [hl] at h'; cases h'
        | some vs =>
          rw [hl] at h'
          obtain ⟨e1, e2⟩ := lks_spec hl
          exact FromOK_sub e2 (hgl _ tl live vs st I F r hat rfl e1 h')
      | true, none, _, _, h, go => exact go h
      | false, some _, _, _, h, go => exact go h
      | false, none, _, _, h, go => exact go h
theorem chain_lt : ∀ (l : Cd) (a : Ent), chain (a :: l) = true → (∀ e ∈ a :: l, 1 ≤ e.2.2.2.1) → ∀ e ∈ l, a.1 < e.1
  | [], a, _, _, e, he => by cases he
  | b :: l, a, h, hp, e, he => by
    have h' : (Nat.beq b.1 (a.1 + a.2.2.2.1) && chain (b :: l)) = true := h
    rw [Bool.and_eq_true] at h'
    have e1 := Nat.eq_of_beq_eq_true h'.1
    have e2 := hp a List.mem_cons_self
    rcases List.mem_cons.mp he with rfl | he
    · omega
    · have := chain_lt l b h'.2 (fun x hx => hp x (List.mem_cons_of_mem _ hx)) e he
      omega
theorem jmp_self : ∀ (pre : Cd) (e : Ent) (tl : Cd), chain (pre ++ e :: tl) = true → (∀ x ∈ pre ++ e :: tl, 1 ≤ x.2.2.2.1) → jmp e.1 (pre ++ e :: tl) = e :: tl
  | [], e, tl, _, _ => by
    show cond (Nat.beq e.1 e.1) (e :: tl) (jmp e.1 tl) = e :: tl
    rw [Nat.beq_refl]
    rfl
  | a :: pre, e, tl, hc, hp => by
    have hlt := chain_lt (pre ++ e :: tl) a hc hp e (List.mem_append_right _ List.mem_cons_self)
    show cond (Nat.beq a.1 e.1) (a :: (pre ++ e :: tl)) (jmp e.1 (pre ++ e :: tl)) = e :: tl
    have hne : Nat.beq a.1 e.1 = false := by
      cases hb : Nat.beq a.1 e.1 with
      | true => have := Nat.eq_of_beq_eq_true hb; omega
      | false => rfl
    rw [hne]
    exact jmp_self pre e tl (chain_app [a] _ hc) (fun x hx => hp x (List.mem_cons_of_mem _ hx))
theorem zip_app : ∀ (live : List Nat) (vs st : List Vl), vs.length = live.length → live.zip (vs ++ st) = live.zip vs ∧ (vs ++ st).drop live.length = st
  | [], [], st, _ => ⟨by simp, rfl⟩
  | [], v :: vs, st, h => by cases h
  | i :: live, [], st, h => by cases h
  | i :: live, v :: vs, st, h => by
    obtain ⟨e1, e2⟩ := zip_app live vs st (by simpa using h)
    exact ⟨by rw [List.cons_append, List.zip_cons_cons, List.zip_cons_cons, e1], by rw [List.cons_append, List.length_cons, List.drop_succ_cons, e2]⟩
theorem sg_sound {gc : GC} (hcd : ∀ y, CW (zM y)) (hgc : SoundC gc) {mr : MR} {full : Cd} (hch : chain full = true) (hln : ∀ e ∈ full, 1 ≤ e.2.2.2.1) (hok : ∀ e ∈ full, ∃ q, okE mr e q = true) : ∀ n : Nat, SoundL mr full (sg gc mr.2.2.2.2.1 full n) := by
  intro n
  induction n with
  | zero => intro e tl live vs st I F r _ _ _ h; cases h
  | succ n ih =>
    intro e tl live vs st I F r hat hlive hlen h
    obtain ⟨q, hd, rr⟩ := e
    cases hlive
    obtain ⟨⟨pre, hp⟩, -⟩ := id hat
    have hj : jmp q full = (q, some live, rr) :: tl := by
      rw [hp]
      exact jmp_self pre (q, some live, rr) tl (hp ▸ hch) (hp ▸ hln)
    have h' : (match jmp q full with | (q, some live, r) :: tl => seg gc (sg gc mr.2.2.2.2.1 full n) mr.2.2.2.2.1 full 400 false ((q, some live, r) :: tl) (live.zip (vs ++ st)) ((vs ++ st).drop live.length) I F | _ => none) = some r := h
    rw [hj] at h'
    obtain ⟨e1, e2⟩ := zip_app live vs st hlen
    simp only at h'
    rw [e1, e2] at h'
    exact seg_sound hcd hgc hch hok ih 400 false _ q _ _ I F r hat h'
theorem asz_sl {g : GG} : ∀ as : List Vl, (lg_sl (as.map (mv g))).length = asz as
  | [] => rfl
  | v :: vs => by
    have ih := asz_sl (g := g) vs
    have hc := mv_c2 (g := g) v
    unfold lg_sl at ih ⊢
    rw [List.map_cons, List.flatMap_cons, List.length_append, ih, show asz (v :: vs) = cond (c2 v) 2 1 + asz vs from rfl]
    cases hv : c2 v with
    | true =>
      rw [hv] at hc
      rw [if_pos (by simpa using hc)]
      rfl
    | false =>
      rw [hv] at hc
      rw [if_neg (by simpa using hc)]
      rfl
theorem ent_map {g : GG} : ∀ (as : List Vl) (i : Nat), lv_args i (as.map (mv g)) = mvl g (ent i as)
  | [], i => rfl
  | v :: vs, i => by
    have hc := mv_c2 (g := g) v
    show (i, mv g v) :: lv_args (if (mv g v).category = 2 then i + 2 else i + 1) (vs.map (mv g)) = (i, mv g v) :: mvl g (ent (cond (c2 v) (i + 2) (i + 1)) vs)
    rw [ent_map vs]
    cases hv : c2 v with
    | true =>
      rw [hv] at hc
      rw [if_pos (by simpa using hc)]
      rfl
    | false =>
      rw [hv] at hc
      rw [if_neg (by simpa using hc)]
      rfl
theorem okLv_ent : ∀ (as : List Vl) (i : Nat), okS as → okLv (ent i as)
  | [], i, _ => fun q hq => by cases hq
  | v :: vs, i, h => okLv_cons (okS_hd h) (okLv_ent vs _ (okS_tl h))
theorem met_of {mr : MR} (hn : plainFor mr.1 = true) (hret : retT mr.2.2.2.2.1 mr.2.2.2.1 = true) {as : List Vl} {I : IM} {F : FM} {r : Rs} (ha : asz as ≤ mr.2.2.1) (h : FromOK mr 0 (ent 0 as) [] I F r) : MetOK mr as I F r := by
  intro hs g l
  refine va_MetF (cc := mr.2.1) (maxL := mr.2.2.1) (ret := mr.2.2.2.1) hn rfl ?_
  intro p e s m args below meth c s₁ B hml hv
  obtain ⟨rfl, hP, hK, hD, hN⟩ := hv
  have hx := B.exec
  have hb := B.bytes
  have hr := B.returns
  have hts := atoms_spec (ws := wsM mr) B.pre
  have hown : s.vm.findClass mr.1.cls = some m.cls := findClass_of_methodNamed B.named
  have hlocks := B.notSynchronized
  have hl := lv_entry (as.map (mv g)) (n := mr.2.2.1) (by rw [asz_sl]; exact ha)
  rw [ent_map] at hl
  rw [lg_entry_eq]
  generalize (lg_sl (as.map (mv g)) ++ List.replicate (mr.2.2.1 - (lg_sl (as.map (mv g))).length) Slot.unset).toArray = ls at hl ⊢
  refine h g p l e (headSpec (wsM mr) (rmM mr)).room s m (as.map (mv g)).toArray below meth c s.heap [] 0 0 (zA (wsL PL R0 g I F)) _ ls ⟨hx, hb, hml, hown, fun w hw => hts w (List.mem_cons_of_mem _ hw)⟩ hN hK hP ⟨hD.1, fun k q hq => ⟨k, q.2, hq⟩⟩ va_S.rf hl (okLv_ent as 0 hs) (fun v hv => by cases hv) (Nat.le_refl _) (Nat.le_refl _) (Nat.le_refl _) (Nat.le_refl _) ?_
  intro H' locs' ls' pc' ins hP' hS' hok hd hri
  have hq : ∀ t : State, t.heap = H' → s.WarmedH t.vm → zQc mr.2.2.2.2.1 g I F r (as.map (mv g)).toArray s (.returned (rv mr.2.2.2.2.1 (mv g r.1))) t := fun t ht _ => ⟨rfl, hok, by rw [ht]; exact hP', hS'.F ht⟩
  have hf := hS'.2.2
  clear h hts
  generalize hrk : mr.2.2.2.2.1 = rk at hret hri hq ⊢
  generalize hrt : mr.2.2.2.1 = rt at hret hr
  obtain ⟨v, I1, F1⟩ := r
  match rk, rt, hret, hr, hri, hq with
  | 0, none, _, hr, hri, hq => cases hri; exact W.vret hx hb hr hq hf hd
  | 1, some .int, _, hr, ⟨hi, x, hx1⟩, hq => cases hi; cases hx1; exact W.iret hx hb hr hq hf hd
  | 2, some .long, _, hr, ⟨hi, x, hx1⟩, hq => cases hi; cases hx1; exact W.lret hx hb hr hq hf hd
  | 3, some .float, _, hr, ⟨hi, x, hx1⟩, hq => cases hi; cases hx1; exact W.fret hx hb hr hq hf hd
  | 4, some .double, _, hr, ⟨hi, x, hx1⟩, hq => cases hi; cases hx1; exact W.dret hx hb hr hq hf hd
  | 5, some (.object n), _, hr, ⟨hi, x, hx1⟩, hq =>
    cases hi; cases hx1
    exact W.aret hx hb hr (Or.inl ⟨n, rfl⟩) (va_rf_or _) hq hf hd
  | 6, some .boolean, _, hr, ⟨hi, hx1⟩, hq =>
    cases hi
    rcases hx1 with z | z <;> cases z <;> exact W.zret hx hb hr rfl hq hf hd
theorem sem_sound (hcd : ∀ y, CW (zM y)) (hT : ∀ y, okT (zM y) (zC y)) (N : Nat) : ∀ d : Nat, SoundC (sem N d) := by
  intro d
  induction d with
  | zero => intro y as I F r h; cases h
  | succ d ih =>
    intro y as I F r h
    obtain ⟨hsz, h⟩ := cond_some (show cond (Nat.ble (asz as) (zM y).2.2.1) _ none = some r from h)
    obtain ⟨hs, hok⟩ := hT y
    rw [Bool.and_eq_true, Bool.and_eq_true, Bool.and_eq_true] at hok
    obtain ⟨h1, h2, h3, h4⟩ := hok
    obtain ⟨⟨hch, hln⟩, hoke, h0⟩ := okM_spec h1
    have hrk : (zC y).1 = (zM y).2.2.2.2.1 := Nat.eq_of_beq_eq_true h2
    unfold runM at h
    rw [hrk] at h
    refine met_of h3 h4 (Nat.le_of_ble_eq_true hsz) ?_
    refine seg_sound hcd ih hch hoke (sg_sound hcd ih hch hln hoke N) 400 false (zC y).2 0 _ _ I F r ⟨⟨[], rfl⟩, fun e tl z => h0 e tl z⟩ h
/-- the small machine is sound: what it answers the machine itself answers -/
theorem sem_ok (N d : Nat) : SoundC (sem N d) := sem_sound CW_all okT_all N d
