def zz_OR (A : List Nat) (o : Option Value ⊕ Nat) (oc : Outcome) : Prop := match o with
  | .inl none => oc = .returned none
  | .inl (some v) => ∃ w, zz_VR A v w ∧ oc = .returned (some w)
  | .inr a => ∃ x, A[a]? = some x ∧ oc = .threw x
def zz_Q (s0 : State) (D : va_G) (cI cJ : ClassId) (A : List Nat) (r : zz_R) : Array Value → State → Outcome → State → Prop := fun _ _ oc t =>
  s0.vm.Alike t.vm ∧ ∃ B, zz_HR s0 D zz_cl zz_fk cI cJ (A ++ B) r.2.2 t.heap [] ∧ zz_OR (A ++ B) r.1 oc
theorem zz_Q_app {s0 : State} {D : va_G} {cI cJ : ClassId} {A B : List Nat} {r : zz_R} {a : Array Value} {st t : State} {oc : Outcome} (h : zz_Q s0 D cI cJ (A ++ B) r a st oc t) : zz_Q s0 D cI cJ A r a st oc t := by
  obtain ⟨h1, C, h2, h3⟩ := h
  rw [List.append_assoc] at h2 h3
  exact ⟨h1, B ++ C, h2, h3⟩
theorem zz_MQ_app {s0 : State} {D : va_G} {cI cJ : ClassId} {A B : List Nat} {r : zz_R} {below : List Frame} {a : Array Value} {s : State} {mc ms b0 : Nat} {ck : Bool} (t : State) (h : zz_MQ below (zz_Q s0 D cI cJ (A ++ B) r) a s mc ms b0 ck t) : zz_MQ below (zz_Q s0 D cI cJ A r) a s mc ms b0 ck t := by
  obtain ⟨o, h1, h2, h3, h4⟩ := h
  exact ⟨o, h1, h2, zz_Q_app h3, h4⟩
theorem zz_same_heap {s t : State} (h : s.sameButNew t [] 0 0) : t.heap = s.heap := by
  obtain ⟨-, h1, h2, -, -, h3⟩ := h
  apply Array.ext_getElem?
  intro q
  by_cases hq : q < s.heap.size
  · have hc0 : s.heap[q]? = some s.heap[q] := Array.getElem?_eq_getElem hq
    obtain ⟨c', e1, e2, e3, e4⟩ := h3 q _ hc0
    rw [e1, hc0, e2]
    congr 1
    have hsl : c'.slots = s.heap[q].slots := by
      apply Array.ext_getElem?
      intro j
      exact e4 j (by simp)
    rw [hsl]
  · rw [Array.getElem?_eq_none (by omega), Array.getElem?_eq_none (by omega)]
theorem zz_lay_len {A : List Nat} : ∀ {as vs : List Value}, zz_SR A as vs → (lg_sl vs).length = (zz_lay as).length
  | [], vs, h => by
    have h' : vs = [] := h
    rw [h']
    rfl
  | v :: r, vs, h => by
    obtain ⟨w, r2, rfl, hv, hr⟩ := h
    have ih := zz_lay_len hr
    have hcat := zz_VR_cat hv
    have e1 : lg_sl (w :: r2) = (if w.category = 2 then [Slot.val w, .second] else [.val w]) ++ lg_sl r2 := by simp [lg_sl]
    rw [e1, hcat]
    unfold zz_lay
    by_cases hc : v.category = 2
    · rw [if_pos hc, if_pos hc]
      simp only [List.length_append, List.length_cons, List.length_nil]
      omega
    · rw [if_neg hc, if_neg hc]
      simp only [List.length_append, List.length_cons, List.length_nil]
      omega
theorem zz_lay_at {A : List Nat} : ∀ {as vs : List Value}, zz_SR A as vs → ∀ (i : Nat) (v : Value), (zz_lay as)[i]? = some (some v) → ∃ w, (lg_sl vs)[i]? = some (.val w) ∧ zz_VR A v w
  | [], vs, h, i, v, hi => by simp [zz_lay] at hi
  | u :: r, vs, h, i, v, hi => by
    obtain ⟨w, r2, rfl, hv, hr⟩ := h
    have hcat := zz_VR_cat hv
    have e1 : lg_sl (w :: r2) = (if w.category = 2 then [Slot.val w, .second] else [.val w]) ++ lg_sl r2 := by simp [lg_sl]
    rw [e1, hcat]
    unfold zz_lay at hi
    by_cases hc : u.category = 2
    · rw [if_pos hc] at hi ⊢
      match i, hi with
      | 0, hi =>
        simp only [List.getElem?_cons_zero, Option.some.injEq] at hi
        subst hi
        exact ⟨w, rfl, hv⟩
      | 1, hi => simp at hi
      | j + 2, hi =>
        simp only [List.getElem?_cons_succ] at hi
        exact zz_lay_at hr j v hi
    · rw [if_neg hc] at hi ⊢
      match i, hi with
      | 0, hi =>
        simp only [List.getElem?_cons_zero, Option.some.injEq] at hi
        subst hi
        exact ⟨w, rfl, hv⟩
      | j + 1, hi =>
        simp only [List.getElem?_cons_succ] at hi
        exact zz_lay_at hr j v hi
theorem zz_entry {A : List Nat} {as vs : List Value} {n : Nat} (h : zz_SR A as vs) (hn : (zz_lay as).length ≤ n) : zz_LR A n (zz_lay as ++ List.replicate (n - (zz_lay as).length) none) ((lg_sl vs ++ List.replicate (n - (lg_sl vs).length) Slot.unset).toArray) := by
  have hl := zz_lay_len h
  obtain ⟨h1, h2, -⟩ := lv_entry vs (n := n) (by omega)
  refine ⟨by simp; omega, h1, h2, fun i v hi => ?_⟩
  by_cases hil : i < (zz_lay as).length
  · rw [List.getElem?_append_left hil] at hi
    obtain ⟨w, hw, hvr⟩ := zz_lay_at h i v hi
    refine ⟨w, ?_, hvr⟩
    rw [List.getElem?_toArray, List.getElem?_append_left (by omega)]
    exact hw
  · rw [List.getElem?_append_right (by omega)] at hi
    obtain ⟨hlt, hval⟩ := List.getElem?_eq_some_iff.mp hi
    rw [List.getElem_replicate] at hval
    cases hval
theorem zz_SR_app2 {A : List Nat} : ∀ {a b c d : List Value}, zz_SR A a b → zz_SR A c d → zz_SR A (a ++ c) (b ++ d)
  | [], b, c, d, h, k => by
    have h' : b = [] := h
    subst h'
    exact k
  | v :: r, b, c, d, h, k => by
    obtain ⟨w, r2, rfl, hv, hr⟩ := h
    exact ⟨w, r2 ++ d, rfl, hv, zz_SR_app2 hr k⟩
theorem zz_SR_rev {A : List Nat} : ∀ {a b : List Value}, zz_SR A a b → zz_SR A a.reverse b.reverse
  | [], b, h => by
    have h' : b = [] := h
    subst h'
    exact (rfl : ([] : List Value) = [])
  | v :: r, b, h => by
    obtain ⟨w, r2, rfl, hv, hr⟩ := h
    rw [List.reverse_cons, List.reverse_cons]
    exact zz_SR_app2 (zz_SR_rev hr) ⟨w, [], rfl, hv, rfl⟩
theorem zz_SR_take {A : List Nat} : ∀ (n : Nat) {a b : List Value}, zz_SR A a b → zz_SR A (a.take n) (b.take n)
  | 0, a, b, _ => by
    rw [List.take_zero, List.take_zero]
    exact (rfl : ([] : List Value) = [])
  | n + 1, [], b, h => by
    have h' : b = [] := h
    subst h'
    exact (rfl : ([] : List Value) = [])
  | n + 1, v :: r, b, h => by
    obtain ⟨w, r2, rfl, hv, hr⟩ := h
    exact ⟨w, r2.take n, rfl, hv, zz_SR_take n hr⟩
theorem zz_SR_drop {A : List Nat} : ∀ (n : Nat) {a b : List Value}, zz_SR A a b → zz_SR A (a.drop n) (b.drop n)
  | 0, a, b, h => h
  | n + 1, [], b, h => by
    have h' : b = [] := h
    subst h'
    exact (rfl : ([] : List Value) = [])
  | n + 1, v :: r, b, h => by
    obtain ⟨w, r2, rfl, hv, hr⟩ := h
    exact zz_SR_drop n hr
section ZS
variable {p : Program} {l : Launch} {e : Env} {R : Room} {s : State} {m : MethodId} {args : Array Value} {below : List Frame} {meth : Method} {c : Code} {H : Heap} {locs : List Loc} {cells slots : Nat} {Q : State → Prop}
variable {M pc len : Nat} {ls : Array Slot} {t : List Value} {A : List Nat} {s0 : State} {D : va_G} {cI cJ : ClassId} {h : zz_H} {x : List Nat} {sw : List (Int32 × Nat)} {L : List (Option Value)} {st : List Value} {k : Bool} {r : zz_R} {i : Instr}
theorem zz_ret_Q (hal : s0.vm.Alike s.vm) (hR : zz_HR s0 D zz_cl zz_fk cI cJ A h H locs) {o : Option Value ⊕ Nat} {oc : Outcome} {a : Array Value} {st' : State} (ho : zz_OR A o oc) : ∀ u : State, u.heap = H → s.WarmedH u.vm → zz_Q s0 D cI cJ A (o, k, h) a st' oc u := by
  intro u hu hW
  refine ⟨hal.trans hW.alike, [], ?_, ?_⟩
  · rw [List.append_nil, hu]
    exact zz_HR_nil hR
  · rw [List.append_nil]
    exact ho
set_option maxHeartbeats 4000000 in
theorem zz_hstop (hK0 : va_K D zz_cl [(cI, .int), (cJ, .long)] s0) (henv : zz_env s0) (htr : l.stackTraces = false) (X : zz_Ctx s0 p s m args meth c M) (hd : decode (zz_b M) pc = .ok (i, len)) (hok : zz_okX M pc i len x sw (zz_ps M pc) = true) (ha : zz_heap i x sw pc L st k h = some (.inl r)) (hlsz : ls.size = zz_ml M) (hS : zz_SR A st t) (hR : zz_HR s0 D zz_cl zz_fk cI cJ A h H locs)
    (hk : k = true → locs = [] ∧ cells = 0 ∧ slots = 0) (hfr : 8 ≤ R.frames) (hlo : 120 ≤ R.locals) (hce : cells + (r.2.2.1.length - h.1.length) ≤ R.cells) (hsl : slots + (zz_size r.2.2 - zz_size h) ≤ R.slots) :
    W p l e R s m args below meth c H locs cells slots (zz_MQ below (zz_Q s0 D cI cJ A r) args s (cells + (r.2.2.1.length - h.1.length)) (slots + (zz_size r.2.2 - zz_size h)) s0.heap.size r.2.1) (F0 m pc ls t) := by
  obtain ⟨hexec, hb, hml, hr, hlocks, hname, hown, hts, hal, htab, hlow⟩ := X
  have hK : va_K D zz_cl [(cI, .int), (cJ, .long)] s := hK0.moved hal
  have hfree : ∀ q ∈ locs, s0.heap.size ≤ q.base ∧ ¬ k = true := zz_free hR.2.2.2.2.2.1.2.2 (fun z => (hk z).1)
  cases i with
  | ireturn =>
    obtain ⟨v, rfl, he, hx⟩ := zz_i_iret ha
    cases he
    simp only [zz_okX, Bool.and_eq_true, beq_iff_eq] at hok
    obtain ⟨rfl, hok⟩ := hok
    obtain ⟨t1, rfl, g1⟩ := zz_SR_int hS
    have g1' : t1 = [] := g1
    subst g1'
    simp only [Nat.sub_self, Nat.add_zero]
    refine zz_W_mono (fun u hu => zz_MQ_of u hu) ?_
    rcases hx with rfl | ⟨rfl, hv⟩
    · have hrt : zz_rtf M = some .int := by simpa using hok
      exact W.iret hexec hb (by rw [hr, hrt]) (zz_ret_Q (o := .inl (some (.int v))) hal hR ⟨.int v, rfl, rfl⟩) hfree hd hlocks
    · have hrt : zz_rtf M = some .boolean := by simpa using hok
      exact W.zret (ty := .boolean) hexec hb (by rw [hr, hrt]) (by rcases hv with rfl | rfl <;> rfl) (zz_ret_Q (o := .inl (some (.int v))) hal hR ⟨.int v, rfl, rfl⟩) hfree hd hlocks
  | lreturn =>
    obtain ⟨v, rfl, he⟩ := zz_i_lret ha
    cases he
    simp only [zz_okX, Bool.and_eq_true, beq_iff_eq, decide_eq_true_eq] at hok
    obtain ⟨rfl, hrt⟩ := hok
    obtain ⟨t1, rfl, g1⟩ := zz_SR_long hS
    have g1' : t1 = [] := g1
    subst g1'
    simp only [Nat.sub_self, Nat.add_zero]
    refine zz_W_mono (fun u hu => zz_MQ_of u hu) ?_
    exact W.lret hexec hb (by rw [hr, hrt]) (zz_ret_Q (o := .inl (some (.long v))) hal hR ⟨.long v, rfl, rfl⟩) hfree hd hlocks
  | return_ =>
    obtain ⟨rfl, he⟩ := zz_i_ret ha
    cases he
    simp only [zz_okX, Bool.and_eq_true, beq_iff_eq, decide_eq_true_eq] at hok
    obtain ⟨rfl, hrt⟩ := hok
    have g1' : t = [] := hS
    subst g1'
    simp only [Nat.sub_self, Nat.add_zero]
    refine zz_W_mono (fun u hu => zz_MQ_of u hu) ?_
    exact W.vret hexec hb (by rw [hr, hrt]) (zz_ret_Q (o := .inl none) hal hR (rfl : (Outcome.returned none) = .returned none)) hfree hd hlocks
  | new idx =>
    obtain ⟨cc, hcase⟩ := zz_i_new ha
    rcases hcase with ⟨-, he⟩ | ⟨rfl, hk1, h8, he⟩
    · cases he
    · cases he
      obtain ⟨rfl, rfl, rfl⟩ := hk hk1
      simp only [zz_okX, Bool.and_eq_true, beq_iff_eq] at hok
      obtain ⟨rfl, hok⟩ := hok
      split at hok
      · rename_i c' a1 a2 a3 e1 e2
        cases e1
      · rename_i c' a1 a3 e1 e2
        cases e1
        simp only [Bool.and_eq_true, decide_eq_true_eq] at hok
        obtain ⟨⟨⟨⟨⟨⟨hcl, hT⟩, w1⟩, w3⟩, hhf⟩, h3⟩, h7⟩ := hok
        simp only [zz_okT, Bool.and_eq_true, decide_eq_true_eq] at hT
        obtain ⟨⟨d2, d3⟩, d4⟩ := hT
        obtain ⟨f1, f2, f3⟩ := zz_fit h3 h7
        have e3 : (h.1 ++ [(4, cc)]).length - h.1.length = 1 := by simp
        have e4 := zz_size_app (h := h) (h' := (h.1 ++ [(4, cc)], h.2.1, h.2.2.1, h.2.2.2)) (q := (4, cc)) rfl
        have e5 : zz_size (h.1 ++ [(4, cc)], h.2.1, h.2.2.1, h.2.2.2) - zz_size h = 6 := by rw [e4]; show zz_size h + 6 - zz_size h = 6; omega
        dsimp only at hce hsl ⊢
        rw [e3] at hce ⊢
        rw [e5] at hsl ⊢
        rw [hcl] at hown
        intro T hT0 XT
        have hHs : T.heap = s.heap := zz_same_heap (t := T.setVm s.vm) XT.same
        have hH : H = s.heap := hT0.symm.trans hHs
        have hcats := zz_cats t
        have hlen := zz_SR_len hS
        refine zz_r_throw hexec hb (hml.trans hlsz.symm) htr hown f1 zz_fit_sup (zz_atoms h3 h7 hts (zz_env_words hal hlow henv)) (hts _ (zz_hw_in w1)) (hts _ (zz_hw_in w3)) hd d2 d3 d4 (by rw [htab, hhf]; intro z hz; cases hz) (by omega) (by omega) (by show 2 + 3 < _; omega) (by show _ + 1 + (13 * (2 + 1) + 41) ≤ _; omega) hlocks ?_ T hHs XT
        intro u hWu hus huk hue
        obtain ⟨ce, hce1, hce2, hce3⟩ := hue
        subst hH
        refine ⟨hal.trans hWu.alike, [s.heap.size], ?_, s.heap.size, by show (A ++ [s.heap.size])[h.1.length]? = _; rw [← hR.1, List.getElem?_concat_length], rfl⟩
        have hP0 := hR.2.2.2.1
        have hlt : ∀ (kq : Nat) (q : Nat × va_E), (zz_w zz_fk cI cJ A h)[kq]? = some q → u.heap[q.1]? = s.heap[q.1]? := fun kq q hq => huk q.1 ((hP0 kq q hq).lt)
        refine zz_HR_push hR (by simp) rfl (zz_wf_app hR.2.2.1 rfl (fun _ _ _ z => z)) (fun _ _ => rfl) (fun _ _ => rfl) (fun _ _ => rfl) ?_ ?_ ?_
        · refine (hP0.kept hlt).app (fun kq q hq => ?_)
          have hz : kq < 1 := (List.getElem?_eq_some_iff.mp hq).1
          rw [show kq = 0 by omega] at hq
          cases hq
          have hcln := zz_en_cl h3 h7
          refine ⟨_, hcln, ce, hce1, ?_, hce3, fun j hj => absurd hj (Nat.not_lt_zero _)⟩
          have hfc := (hK.1 cc _ hcln).2.1
          exact Option.some.inj (hce2.symm.trans hfc)
        · exact hR.2.2.2.2.1.push hP0 rfl hR.2.2.2.2.2.1.1
        · refine ⟨Nat.le_trans hR.2.2.2.2.2.1.1 (by omega), fun q hq1 hq2 => ?_, fun q hq => by cases hq⟩
          rw [huk q (Nat.lt_of_lt_of_le hq1 hR.2.2.2.2.2.1.1)]
          exact hR.2.2.2.2.2.1.2.1 q hq1 hq2
      · cases hok
  | ldc idx => obtain ⟨_, _, _, he⟩ := zz_i_ldc ha; cases he
  | ldc2_w idx => obtain ⟨_, _, he⟩ := zz_i_ldc2 ha; cases he
  | getfield idx => obtain ⟨_, _, _, _, _, _, _, _, he⟩ := zz_i_get ha; cases he
  | putfield idx =>
    obtain ⟨_, _, _, _, _, hcase⟩ := zz_i_put ha
    rcases hcase with ⟨_, _, _, he⟩ | ⟨_, _, _, _, he⟩ | ⟨_, _, _, he⟩ | ⟨_, _, _, he⟩ <;> cases he
  | getstatic idx => obtain ⟨_, _, _, _, he⟩ := zz_i_gets ha; cases he
  | iaload => obtain ⟨_, _, _, _, _, _, _, he⟩ := zz_i_ild ha; cases he
  | iastore => obtain ⟨_, _, _, _, _, _, _, _, he⟩ := zz_i_ist ha; cases he
  | laload => obtain ⟨_, _, _, _, _, _, _, he⟩ := zz_i_lld ha; cases he
  | lastore => obtain ⟨_, _, _, _, _, _, _, _, he⟩ := zz_i_lst ha; cases he
  | arraylength => obtain ⟨_, _, _, _, _, he⟩ := zz_i_len ha; cases he
  | newarray ty =>
    obtain ⟨_, _, _, _, _, hcase⟩ := zz_i_newa ha
    rcases hcase with ⟨_, he⟩ | ⟨_, he⟩ <;> cases he
  | _ => simp [zz_heap] at ha
end ZS
