/-! CALLS -/
def wsM (mr : MR) : List Cond := .code mr.1 mr.2.1 mr.2.2.1 mr.2.2.2.1 :: lw_gd
def rmM (mr : MR) : Room := { frames := mr.2.2.2.2.2.1, cells := 0, slots := 0, locals := mr.2.2.2.2.2.2 }
def rv (rk : Nat) (v : Value) : Option Value := match rk with
  | 0 => none
  | _ => some v
def rsv (rk : Nat) (v : Vl) : List Vl := match rk with
  | 0 => []
  | _ => [v]
/-- the world's own cells -/
def zA (ws : va_W) : Nat → Prop := fun q => ∃ (k : Nat) (e : va_E), ws[k]? = some (q, e)
def zPc (g : GG) (I : IM) (F : FM) : State → Prop := fun U => va_P g.1 vwCl (wsL PL R0 g I F) U.heap ∧ va_K g.1 vwCl (tyG g) U ∧ va_D (fun _ => True) (wsL PL R0 g I F) ∧ NstOK U
def zQc (rk : Nat) (g : GG) (I : IM) (F : FM) (r : Rs) : Array Value → State → Outcome → State → Prop := fun _ st oc t => oc = .returned (rv rk (mv g r.1)) ∧ okV PL r.1 ∧ va_P g.1 vwCl (wsL PL R0 g r.2.1 r.2.2) t.heap ∧ va_F (zA (wsL PL R0 g I F)) st t
def MetOK (mr : MR) (as : List Vl) (I : IM) (F : FM) (r : Rs) : Prop := okS as → ∀ (g : GG) (l : Launch), Met l mr.1 (wsM mr) (rmM mr) (va_Pc (as.map (mv g)) (zPc g I F)) (zQc mr.2.2.2.2.1 g I F r) 0 0 (zA (wsL PL R0 g I F))
def CallOK (y : Nat) (as : List Vl) (I : IM) (F : FM) (r : Rs) : Prop := MetOK (zM y) as I F r
theorem zPc_blind {av : List Value} {g : GG} {I : IM} {F : FM} : FrameBlind (va_Pc av (zPc g I F)) := fun a U gf mk q => by
  obtain ⟨q0, qP, qK, qD, qN⟩ := q
  exact ⟨q0, qP, va_K.moved (u := U) (U := U.calling gf mk a) (Vm.Alike.refl U.vm) qK, qD, qN.same rfl⟩
theorem gd_good {mr : MR} (h : Cond.code mr.1 mr.2.1 mr.2.2.1 mr.2.2.2.1 ∈ lw_gd) : GoodIn lw_gd (wsM mr) := by
  intro v hv
  rcases List.mem_cons.mp hv with rfl | hv
  · exact ⟨h, good_of_word (List.mem_filter.mp h).2⟩
  · exact ⟨hv, good_of_word (List.mem_filter.mp hv).2⟩
section ZC
variable {p : Program} {l : Launch} {e : Env} {R : Room} {s : State} {m : MethodId} {args : Array Value} {below : List Frame} {meth : Method} {c : Code} {H : Heap} {locs : List Loc} {cells slots : Nat} {Q : State → Prop}
variable {pc : Nat} {ls : Array Slot} {rest st0 : List Value} {a : Array Value} {A0 : Nat → Prop} {H0 : Heap} {free : Addr → Prop}
theorem z_call {rk : Nat} {g : GG} {I : IM} {F : FM} {r : Rs} (hr : va_Run p l e R s m args below meth c H locs cells slots 0 0 (F0 m pc ls st0) rest (zQc rk g I F r a) free) (hS : va_S A0 H0 H locs) (hA : ∀ q, zA (wsL PL R0 g I F) q → A0 q) (hf : ∀ q, free q → A0 q)
    (kk : ∀ (H1 : Heap) (locs1 : List Loc), okV PL r.1 → va_P g.1 vwCl (wsL PL R0 g r.2.1 r.2.2) H1 → va_S A0 H0 H1 locs1 → W p l e R s m args below meth c H1 locs1 cells slots Q (F0 m (pc + 3) ls ((rv rk (mv g r.1)).toList ++ rest))) : W p l e R s m args below meth c H locs cells slots Q (F0 m pc ls st0) := by
  intro T hT X
  obtain ⟨v, st₀, t, T', L, h0, X', hL, e1, e2, ⟨hv, hok, hb, hz, hk⟩, st⟩ := hr T hT X
  cases hv
  rw [h0] at hz hk
  obtain ⟨t2, a1, b1⟩ := kk T'.heap (locs ++ L) hok (by rw [e1]; exact hb) ⟨Nat.le_trans hS.1 (by rw [e1]; exact hz), fun q h1 h2 => by rw [e1, hk q (Nat.lt_of_lt_of_le h1 hS.1) (fun z => h2 (hA q z))]; exact hS.2.1 q h1 h2, fun q hq => by
      rcases List.mem_append.mp hq with h | h
      · exact hS.2.2 q h
      · exact hf _ (hL q h)⟩ T' rfl X'
  exact ⟨t2, st t2 a1, b1⟩
end ZC
theorem z_csm {g : GG} : ∀ st : List Vl, ((st.map (mv g)).map fun v => v.category).sum = csm st := by
  intro st
  induction st with
  | nil => rfl
  | cons v st ih =>
    rw [List.map_cons, List.map_cons, List.sum_cons, ih]
    show _ = cond (c2 v) 2 1 + csm st
    congr 1
    rcases v with x | x | x | x | x
    · rfl
    · rfl
    · rfl
    · rfl
    · cases x <;> rfl
section ZV
variable {p : Program} {l : Launch} {e : Env} {R : Room} {s : State} {m : MethodId} {args : Array Value} {below : List Frame} {meth : Method} {c : Code} {H : Heap} {locs : List Loc} {cells slots : Nat}
/-- a call while up to twelve places of the stack are taken -/
theorem z_runV {y : MethodName} {bytes cc : ByteArray} {maxL nL mc ms n index : Nat} {ret : Option FieldType} {ws : List Cond} {rm : Room} {Pc : Array Value → State → Prop} {Qc : Array Value → State → Outcome → State → Prop} {free : Addr → Prop} {Ts : List Cond} {own C : String} {b : Addr} {As rest : List Value} {g : JFrame}
    (S : CallFix p m c cc nL s args Ts own) (hM : Met l y ws rm Pc Qc mc ms free) (cw : CallW R s args own C index y bytes maxL ret ws rm mc ms n) (hwide : 12 + (maxL + 11) + rm.locals ≤ R.locals) (hp : PreV s H C b Pc As) (hg : g.method = m) (hn : As.length = n) (hsize : g.locals.size = nL) (hstack : g.stack = As.reverse ++ .ref b :: rest) (hW : 2 * g.monitorRoom + (rest.map fun v => v.category).sum ≤ 12) (hdg : decode cc g.pc = .ok (.invokevirtual index, 3)) (hf : cells + mc ≤ R.cells ∧ slots + ms ≤ R.slots) :
    va_Run p l e R s m args below meth c H locs cells slots mc ms g rest (Qc (Value.ref b :: As).toArray) (free) := by
  obtain ⟨⟨q1, q2, q3, -, q5, q6, hcode, q8, hy, hlen, hl⟩, hin, hse⟩ := cw
  have hback : Back l R p e below s args y 3 12 (PreOf R mc ms Pc) (PostOf Qc mc ms free) := back_of (bytes := bytes) (maxL := maxL) (ret := ret) hM hp.1 q1 q2 q3 hwide q5 q6 (fun a' U hw => word_at hw (Or.inl (by first | rfl | simp [Cond.onTables, Cond.keeps, Cond.steady])) q8)
  obtain ⟨hx, hb, hml, ho, -⟩ := S
  obtain ⟨-, ⟨cell, hc1, hc2, hc3⟩, hPc⟩ := hp
  intro T hT X
  have hcall := callV X hx (C := C) (bytes := bytes) (maxL := maxL) (ret := ret) ho hl hin hse hcode hy hback (by rw [hT]; exact hc1) hc2 hc3 hg (hsize.trans hml.symm) (argsL := As) (rest := rest) (fun sig h => hn.trans (hlen sig h)) hstack hW (by rw [hb]; exact hdg) (fun vm₁ hw => ⟨hf.1, hf.2, hPc (T.setVm vm₁) hT hw⟩)
  obtain ⟨v, vm₁, ⟨U1, l1, k1, n1⟩, -, hX, ⟨g1, mk, t, L, z1, z2, z3, z4, z5, z6, z7⟩, st⟩ := hcall
  dsimp only [Pt.U, Pt.locs, Pt.cells, Pt.slots] at hX z1 z2 z4 z6 z7 st
  subst z4
  subst z6
  subst z7
  exact ⟨v, (T.setVm vm₁).calling g1 mk (Value.ref b :: As).toArray, t, U1, L, hT, hX, z5, z1, z2, z3, st⟩
end ZV
theorem z_rest {g : GG} : ∀ {st : List Vl} {n : Nat}, st.length ≤ n → ((st.map (mv g)).map fun v => v.category).sum ≤ 2 * n := by
  intro st
  induction st with
  | nil => intro n _; simp
  | cons v r ih =>
    intro n hn
    cases n with
    | zero => simp at hn
    | succ n =>
      have h1 := ih (n := n) (by simpa using hn)
      have h2 : (mv g v).category ≤ 2 := by rcases lv_cat (mv g v) with z | z <;> omega
      simp only [List.map_cons, List.sum_cons]
      omega
theorem z_zA {g : GG} {I : IM} {F : FM} {A : Nat → Prop} (hD : va_D A (wsL PL R0 g I F)) : ∀ q, zA (wsL PL R0 g I F) q → A q := fun q ⟨k, e, h⟩ => hD.2 k (q, e) h
theorem rsv_map {g : GG} {rk : Nat} {v : Vl} {st : List Vl} : (rsv rk v ++ st).map (mv g) = (rv rk (mv g v)).toList ++ st.map (mv g) := by
  cases rk with
  | zero => rfl
  | succ n => simp [rsv, rv]
theorem okS_rsv {rk : Nat} {v : Vl} {st : List Vl} (hv : okV PL v) (h : okS st) : okS (rsv rk v ++ st) := by
  cases rk with
  | zero => exact h
  | succ n => exact okS_cons hv h
def zdesc (mr : MR) (na : Nat) : Prop := mr.1.cls ≠ "java/lang/invoke/MethodHandle" ∧ mr.1.cls ≠ "java/lang/invoke/VarHandle" ∧ (parseMethodDescriptor mr.1.desc).map (fun d => d.parameters.length) = some na
section ZS
variable {mr m1 : MR} {pc idx na b o ci0 N : Nat} {C : String} {T : u_T} {lv : Lv} {st as : List Vl} {I : IM} {F : FM} {r r1 : Rs}
theorem S_callV (hd : decode mr.2.1 pc = .ok (.invokevirtual idx, 3)) (w1 : Cond.methodLink mr.1.cls idx m1.1 ∈ lw_gd) (w2 : Cond.code m1.1 m1.2.1 m1.2.2.1 m1.2.2.2.1 ∈ lw_gd) (w3 : Cond.initialized m1.1.cls ∈ lw_gd) (w4 : Cond.instanceMethod m1.1 ∈ lw_gd) (w5 : Cond.selects m1.1.cls m1.1 m1.1 ∈ lw_gd) (hc : vwCl[ci0]? = some (C, T, N)) (hC : C = m1.1.cls) (hds : zdesc m1 na) (hf0 : m1.2.2.2.2.2.1 + 1 ≤ mr.2.2.2.2.2.1) (hl0 : 12 + (m1.2.2.1 + 11) + m1.2.2.2.2.2.2 ≤ mr.2.2.2.2.2.2)
    (hk : K0 b o = (0, ci0)) (hln : as.length = na) (hst : csm st ≤ 12) (hcall : MetOK m1 (vR (some (b, o)) :: as) I F r1) (k : FromOK mr (pc + 3) lv (rsv m1.2.2.2.2.1 r1.1 ++ st) r1.2.1 r1.2.2 r) : FromOK mr pc lv (as.reverse ++ vR (some (b, o)) :: st) I F r := by
  intro g p l e R s m args below meth c H locs cells slots A Q ls S hN hK hP hD hS hl hV hs hfr hlo hce hsl hend
  have hsb : okV PL (vR (some (b, o))) := hs _ (List.mem_append_right _ List.mem_cons_self)
  have hss : okS st := fun v hv => hs v (List.mem_append_right _ (List.mem_cons_of_mem _ hv))
  have hsA : okS (vR (some (b, o)) :: as) := okS_cons hsb (fun v hv => hs v (List.mem_append_left _ (List.mem_reverse.mpr hv)))
  have hM := hcall hsA g l
  subst hC
  have hts := S.2.2.2.2
  have cw : CallW R s args mr.1.cls m1.1.cls idx m1.1 m1.2.1 m1.2.2.1 m1.2.2.2.1 (wsM m1) (rmM m1) 0 0 na := ⟨callB_of na hts (gd_good w2) rfl rfl rfl (hts _ w3) (hts _ w1) hds ⟨Nat.le_trans hf0 hfr, Nat.le_trans (Nat.add_le_add_right (Nat.add_le_add_right (by decide : 8 ≤ 12) _) _) (Nat.le_trans hl0 hlo)⟩, hts _ w4, hts _ w5⟩
  have hrun := z_runV (H := H) (locs := locs) (cells := cells) (slots := slots) (below := below) (meth := meth) (e := e) (b := zad g (b, o)) (As := as.map (mv g)) (rest := st.map (mv g)) (g := F0 m pc ls ((as.reverse ++ vR (some (b, o)) :: st).map (mv g))) ⟨S.1, S.2.1, S.2.2.1, S.2.2.2.1, hts⟩ hM cw (Nat.le_trans hl0 hlo) ⟨zPc_blind, va_recv hK hP (ci := ci0) (q0 := ix b o) hc (by rw [wsL_get hsb, zcl_obj hk]), fun U hU hW => ⟨rfl, by rw [hU]; exact hP, va_K.moved hW.alike hK, hD.weaken (fun _ _ _ _ => trivial), hN.warm hW⟩⟩ rfl (by simpa using hln) hl.1 (by simp [mv, va_rf]) (by show 2 * 0 + _ ≤ 12; rw [z_csm]; omega) hd ⟨hce, hsl⟩
  refine z_call hrun hS (z_zA hD) (z_zA hD) (fun H1 locs1 hok hP1 hS1 => ?_)
  rw [← rsv_map]
  exact k g p l e R s m args below meth c H1 locs1 cells slots A Q ls S hN hK hP1 (wsL_D hD) hS1 hl hV (okS_rsv hok hss) hfr hlo hce hsl hend
theorem S_callS (hd : decode mr.2.1 pc = .ok (.invokestatic idx, 3)) (w1 : Cond.methodLink mr.1.cls idx m1.1 ∈ lw_gd) (w2 : Cond.code m1.1 m1.2.1 m1.2.2.1 m1.2.2.2.1 ∈ lw_gd) (w3 : Cond.initialized m1.1.cls ∈ lw_gd) (w4 : Cond.static m1.1 ∈ lw_gd) (hds : zdesc m1 na) (hf0 : m1.2.2.2.2.2.1 + 1 ≤ mr.2.2.2.2.2.1) (hl0 : 8 + (m1.2.2.1 + 11) + m1.2.2.2.2.2.2 ≤ mr.2.2.2.2.2.2)
    (hln : as.length = na) (hst : st.length ≤ 4) (hcall : MetOK m1 as I F r1) (k : FromOK mr (pc + 3) lv (rsv m1.2.2.2.2.1 r1.1 ++ st) r1.2.1 r1.2.2 r) : FromOK mr pc lv (as.reverse ++ st) I F r := by
  intro g p l e R s m args below meth c H locs cells slots A Q ls S hN hK hP hD hS hl hV hs hfr hlo hce hsl hend
  have hss : okS st := fun v hv => hs v (List.mem_append_right _ hv)
  have hsA : okS as := fun v hv => hs v (List.mem_append_left _ (List.mem_reverse.mpr hv))
  have hM := hcall hsA g l
  have hts := S.2.2.2.2
  have cw : CallB R s args mr.1.cls idx m1.1 m1.2.1 m1.2.2.1 m1.2.2.2.1 (wsM m1) (rmM m1) 0 0 na ∧ (Cond.static m1.1).before args s = true := ⟨callB_of na hts (gd_good w2) rfl rfl rfl (hts _ w3) (hts _ w1) hds ⟨Nat.le_trans hf0 hfr, Nat.le_trans hl0 hlo⟩, hts _ w4⟩
  have hrun := va_runS (H := H) (locs := locs) (cells := cells) (slots := slots) (below := below) (meth := meth) (e := e) (As := as.map (mv g)) (rest := st.map (mv g)) (g := F0 m pc ls ((as.reverse ++ st).map (mv g))) ⟨S.1, S.2.1, S.2.2.1, S.2.2.2.1, hts⟩ hM cw ⟨zPc_blind, fun U hU hW => ⟨rfl, by rw [hU]; exact hP, va_K.moved hW.alike hK, hD.weaken (fun _ _ _ _ => trivial), hN.warm hW⟩⟩ rfl (by simpa using hln) hl.1 (by simp) (lv_room (z_rest (n := 4) hst)) hd ⟨hce, hsl⟩
  refine z_call hrun hS (z_zA hD) (z_zA hD) (fun H1 locs1 hok hP1 hS1 => ?_)
  rw [← rsv_map]
  exact k g p l e R s m args below meth c H1 locs1 cells slots A Q ls S hN hK hP1 (wsL_D hD) hS1 hl hV (okS_rsv hok hss) hfr hlo hce hsl hend
theorem S_callSN {host : String} (hd : decode mr.2.1 pc = .ok (.invokestatic idx, 3)) (w1 : (mr.1.cls, idx, m1.1, host) ∈ zNst) (w2 : Cond.code m1.1 m1.2.1 m1.2.2.1 m1.2.2.2.1 ∈ lw_gd) (w3 : Cond.initialized m1.1.cls ∈ lw_gd) (w4 : Cond.static m1.1 ∈ lw_gd) (hds : zdesc m1 na) (hf0 : m1.2.2.2.2.2.1 + 1 ≤ mr.2.2.2.2.2.1) (hl0 : 8 + (m1.2.2.1 + 11) + m1.2.2.2.2.2.2 ≤ mr.2.2.2.2.2.2)
    (hln : as.length = na) (hst : st.length ≤ 4) (hcall : MetOK m1 as I F r1) (k : FromOK mr (pc + 3) lv (rsv m1.2.2.2.2.1 r1.1 ++ st) r1.2.1 r1.2.2 r) : FromOK mr pc lv (as.reverse ++ st) I F r := by
  intro g p l e R s m args below meth c H locs cells slots A Q ls S hN hK hP hD hS hl hV hs hfr hlo hce hsl hend
  have hss : okS st := fun v hv => hs v (List.mem_append_right _ hv)
  have hsA : okS as := fun v hv => hs v (List.mem_append_left _ (List.mem_reverse.mpr hv))
  have hM := hcall hsA g l
  have hts := S.2.2.2.2
  have cw : va_CN R s args mr.1.cls idx m1.1 host m1.2.1 m1.2.2.1 m1.2.2.2.1 (wsM m1) (rmM m1) 0 0 na ∧ (Cond.static m1.1).before args s = true ∧ True := ⟨va_cnB na hts (gd_good w2) rfl rfl rfl (hN _ w1) (hts _ w3) hds ⟨Nat.le_trans hf0 hfr, Nat.le_trans hl0 hlo⟩, hts _ w4, trivial⟩
  have hrun := va_runSN (H := H) (locs := locs) (cells := cells) (slots := slots) (below := below) (meth := meth) (e := e) (As := as.map (mv g)) (rest := st.map (mv g)) (g := F0 m pc ls ((as.reverse ++ st).map (mv g))) ⟨S.1, S.2.1, S.2.2.1, S.2.2.2.1, hts⟩ hM cw ⟨zPc_blind, fun U hU hW => ⟨rfl, by rw [hU]; exact hP, va_K.moved hW.alike hK, hD.weaken (fun _ _ _ _ => trivial), hN.warm hW⟩⟩ rfl (by simpa using hln) hl.1 (by simp) (lv_room (z_rest (n := 4) hst)) hd ⟨hce, hsl⟩
  refine z_call hrun hS (z_zA hD) (z_zA hD) (fun H1 locs1 hok hP1 hS1 => ?_)
  rw [← rsv_map]
  exact k g p l e R s m args below meth c H1 locs1 cells slots A Q ls S hN hK hP1 (wsL_D hD) hS1 hl hV (okS_rsv hok hss) hfr hlo hce hsl hend
theorem S_copy {sb so n0 n1 : Nat} {n dp sp : Int32} (hd : decode mr.2.1 pc = .ok (.invokestatic idx, 3)) (w1 : Cond.methodLink mr.1.cls idx arraycopyName ∈ lw_gd) (w2 : Cond.native arraycopyName ∈ lw_gd) (w3 : Cond.static arraycopyName ∈ lw_gd) (w4 : Cond.initialized "java/lang/System" ∈ lw_gd) (hf0 : 1 ≤ mr.2.2.2.2.2.1) (hl0 : nativeFrameWords "java/lang/System" "arraycopy" 5 + 11 ≤ mr.2.2.2.2.2.2)
    (hk : K0 b o = (1, n1)) (hk0 : K0 sb so = (1, n0)) (h1 : inb n 2000000000) (h2 : inb sp (n0 + 1 - n.toNatClampNeg)) (h3 : inb dp (n1 + 1 - n.toNatClampNeg)) (k : FromOK mr (pc + 3) lv [] (cI I b o sb so sp.toNatClampNeg dp.toNatClampNeg n.toNatClampNeg) F r) : FromOK mr pc lv [vI n, vI dp, vR (some (b, o)), vI sp, vR (some (sb, so))] I F r := by
  intro g p l e R s m args below meth c H locs cells slots A Q ls S hN hK hP hD hS hl hV hs hfr hlo hce hsl hend
  have hts := S.2.2.2.2
  have hb1 : okV PL (vR (some (b, o))) := okS_hd (okS_tl (okS_tl hs))
  have hb0 : okV PL (vR (some (sb, so))) := okS_hd (okS_tl (okS_tl (okS_tl (okS_tl hs))))
  have e2 : sp.toNatClampNeg < n0 + 1 - n.toNatClampNeg := Nat.not_le.mp (fun z => h2 (Or.inr z))
  have e3 : dp.toNatClampNeg < n1 + 1 - n.toNatClampNeg := Nat.not_le.mp (fun z => h3 (Or.inr z))
  refine va_copyi (q0 := ix sb so) (q1 := ix b o) (t0 := 0) (t1 := 0) (ty := .int) (rest := []) (n0 := n0) (n1 := n1) S.1 S.2.1 (by rw [S.2.2.1, hl.1]) S.2.2.2.1 (hts _ w1) (hts _ w2) (hts _ w3) (hts _ w4) hK hP hD hS (by rw [wsL_get hb0, zcl_int hk0]) (by rw [wsL_get hb1, zcl_int hk]) rfl rfl rfl (fun z => h2 (Or.inl z)) (fun z => h3 (Or.inl z)) (fun z => h1 (Or.inl z)) (by omega) (by omega) (fun i _ => rfl) (Nat.le_trans hf0 hfr) (by simpa using Nat.le_trans hl0 hlo) hd (fun H1 locs1 hP1 hD1 hS1 => ?_)
  rw [wsL_set (R' := R0) (I' := cI I b o sb so sp.toNatClampNeg dp.toNatClampNeg n.toNatClampNeg) (F' := F) PL_okL hb1 (fun b' o' h => ⟨rfl, cI_ne h, rfl⟩) (by rw [zcl_int hk, cI_self])] at hP1 hD1
  exact k g p l e R s m args below meth c H1 locs1 cells slots A Q ls S hN hK hP1 hD1 hS1 hl hV (fun v hv => by cases hv) hfr hlo hce hsl hend
theorem S_f2iraw {x : UInt32} (hd : decode mr.2.1 pc = .ok (.invokestatic idx, 3)) (w1 : Cond.methodLink mr.1.cls idx ⟨"java/lang/Float", "floatToRawIntBits", "(F)I"⟩ ∈ lw_gd) (w2 : Cond.native ⟨"java/lang/Float", "floatToRawIntBits", "(F)I"⟩ ∈ lw_gd) (w3 : Cond.static ⟨"java/lang/Float", "floatToRawIntBits", "(F)I"⟩ ∈ lw_gd) (w4 : Cond.initialized "java/lang/Float" ∈ lw_gd) (hf0 : 1 ≤ mr.2.2.2.2.2.1) (hl0 : 23 ≤ mr.2.2.2.2.2.2) (hst : st.length ≤ 4) (k : FromOK mr (pc + 3) lv (vI x.toInt32 :: st) I F r) : FromOK mr pc lv (vF x :: st) I F r := by
  intro g p l e R s m args below meth c H locs cells slots A Q ls S hN hK hP hD hS hl hV hs hfr hlo hce hsl hend
  have hts := S.2.2.2.2
  have h8 := z_rest (g := g) (n := 4) hst
  exact vn_f2i S.1 S.2.1 (by rw [S.2.2.1, hl.1]) S.2.2.2.1 (hts _ w1) (hts _ w2) (hts _ w3) (hts _ w4) (Nat.le_trans hf0 hfr) (by omega) hd (k g p l e R s m args below meth c H locs cells slots A Q ls S hN hK hP hD hS hl hV (okS_cons trivial (okS_tl hs)) hfr hlo hce hsl hend)
theorem S_d2lraw {x : UInt64} (hd : decode mr.2.1 pc = .ok (.invokestatic idx, 3)) (w1 : Cond.methodLink mr.1.cls idx ⟨"java/lang/Double", "doubleToRawLongBits", "(D)J"⟩ ∈ lw_gd) (w2 : Cond.native ⟨"java/lang/Double", "doubleToRawLongBits", "(D)J"⟩ ∈ lw_gd) (w3 : Cond.static ⟨"java/lang/Double", "doubleToRawLongBits", "(D)J"⟩ ∈ lw_gd) (w4 : Cond.initialized "java/lang/Double" ∈ lw_gd) (hf0 : 1 ≤ mr.2.2.2.2.2.1) (hl0 : 23 ≤ mr.2.2.2.2.2.2) (hst : st.length ≤ 4) (k : FromOK mr (pc + 3) lv (vL x.toInt64 :: st) I F r) : FromOK mr pc lv (vD x :: st) I F r := by
  intro g p l e R s m args below meth c H locs cells slots A Q ls S hN hK hP hD hS hl hV hs hfr hlo hce hsl hend
  have hts := S.2.2.2.2
  have h8 := z_rest (g := g) (n := 4) hst
  exact vn_d2l S.1 S.2.1 (by rw [S.2.2.1, hl.1]) S.2.2.2.1 (hts _ w1) (hts _ w2) (hts _ w3) (hts _ w4) (Nat.le_trans hf0 hfr) (by omega) hd (k g p l e R s m args below meth c H locs cells slots A Q ls S hN hK hP hD hS hl hV (okS_cons trivial (okS_tl hs)) hfr hlo hce hsl hend)
end ZS
