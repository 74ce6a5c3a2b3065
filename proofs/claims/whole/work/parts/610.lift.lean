/-! lifts: a contract over some segments is one over a wider list of segments -/
section LIFT
variable {l : Launch} {D : va_G} {cs : Nat → ClassId} {y : MethodName} {ws : List Cond} {rm : Room} {av : List Value} {sz : Nat} {r : Int32} {mc ms k : Nat} {sg sc sr : List va_W}
theorem li_sub (hp : (sc ++ sr).Perm sg) : ∀ q, va_A sc.flatten sz q → va_A sg.flatten sz q := by
  intro q h
  rcases h with ⟨k, e, h⟩ | h
  · have hp1 : (sc.flatten ++ sr.flatten).Perm sg.flatten := by rw [← List.flatten_append]; exact sg_flat hp
    obtain ⟨j, hj⟩ := List.mem_iff_getElem?.mp (hp1.mem_iff.mp (List.mem_append_left _ (List.mem_of_getElem? h)))
    exact Or.inl ⟨j, e, hj⟩
  · exact Or.inr h
theorem li_F {A B : Nat → Prop} {st t : State} (h : va_F A st t) (hAB : ∀ q, A q → B q) : va_F B st t := ⟨h.1, fun q hq hn => h.2 q hq (fun ha => hn (hAB q ha))⟩
theorem li_preW (hp : (sc ++ sr).Perm sg) {a : Array Value} {s : State} (h : pW D cs av sz sg.flatten a s) : pW D cs av sz sc.flatten a s := ⟨h.1, h.2.1, sg_cutP h.2.2.1 hp, h.2.2.2.1, sg_cutD h.2.2.2.2.1 hp, h.2.2.2.2.2.narrow (li_sub hp)⟩
theorem li_preN (hp : (sc ++ sr).Perm sg) {a : Array Value} {s : State} (h : pN D cs av sz sg.flatten a s) : pN D cs av sz sc.flatten a s := ⟨h.1, h.2.1, sg_cutP h.2.2.1 hp, h.2.2.2.1, h.2.2.2.2.1, sg_cutD h.2.2.2.2.2.1 hp, h.2.2.2.2.2.2.narrow (li_sub hp)⟩
theorem li_post {sc' sf : List va_W} (hp : (sc ++ sr).Perm sg) (hpF : (sr ++ sc').Perm sf) {st t : State} (hsz : st.heap.size = sz) (hP : va_P D vwCl sg.flatten st.heap) (hD : va_D (fun _ => True) sg.flatten) (hF : va_F (va_A sc.flatten sz) st t) (hB : va_P D vwCl sc'.flatten t.heap ∧ va_D (va_A sc.flatten sz) sc'.flatten) : va_P D vwCl sf.flatten t.heap ∧ va_D (va_A sg.flatten sz) sf.flatten := by
  subst hsz
  exact sg_back (s := st) (locs := []) hP hD.self va_S.rf (fun q h => Or.inr h) hp hpF hF.2 hB.1 hB.2
theorem li_MI {sc' sf : List va_W} (hM : MI l D cs y ws rm av sz sc.flatten sc'.flatten r) (hp : (sc ++ sr).Perm sg) (hpF : (sr ++ sc').Perm sf) : MI l D cs y ws rm av sz sg.flatten sf.flatten r := by
  refine MetFree.mono hM (fun _ _ q => li_preW hp q) (fun _ _ _ _ _ q => q) (fun a st o t hpre q => ?_)
  obtain ⟨⟨⟨x, u, h1, h2, h3⟩, h4⟩, L, h5, h6⟩ := q
  exact ⟨⟨⟨x, u, h1, h2, li_post hp hpF hpre.2.1 hpre.2.2.1 hpre.2.2.2.2.1 h4 h3⟩, li_F h4 (li_sub hp)⟩, L, h5, fun q hq => li_sub hp _ (h6 q hq)⟩
theorem li_IJ {w w' : va_W} (hM : MI l D cs y ws rm av sz w w' r) : MJ l D cs y ws rm av sz w (fun (_ : Unit) => True) (fun _ => w') r 0 0 := by
  refine MetFree.mono hM (fun _ _ q => ⟨q.1, q.2.1, q.2.2.1, q.2.2.2.1, q.2.2.2.2.2.1, q.2.2.2.2.2.2⟩) (fun _ _ _ _ _ q => q) (fun a st o t hpre q => ?_)
  obtain ⟨⟨⟨x, u, h1, h2, h3⟩, h4⟩, h5⟩ := q
  exact ⟨⟨⟨x, u, h1, ⟨h2, trivial⟩, h3⟩, h4⟩, h5⟩
theorem li_MJ {S : Type} {ok : S → Prop} {sc' sf : S → List va_W} (hM : MJ l D cs y ws rm av sz sc.flatten ok (fun u => (sc' u).flatten) r mc ms) (hp : (sc ++ sr).Perm sg) (hpF : ∀ u, (sr ++ sc' u).Perm (sf u)) : MJ l D cs y ws rm av sz sg.flatten ok (fun u => (sf u).flatten) r mc ms := by
  refine MetFree.mono hM (fun _ _ q => li_preN hp q) (fun _ _ _ _ _ q => q) (fun a st o t hpre q => ?_)
  obtain ⟨⟨⟨x, u, h1, h2, h3⟩, h4⟩, L, h5, h6⟩ := q
  exact ⟨⟨⟨x, u, h1, h2, li_post hp (hpF u) hpre.2.1 hpre.2.2.1 hpre.2.2.2.2.2.1 h4 h3⟩, li_F h4 (li_sub hp)⟩, L, h5, fun q hq => li_sub hp _ (h6 q hq)⟩
theorem li_XS {S : Type} {ok : S → Prop} {sc' sf : S → List va_W} (hM : XS l D cs y ws rm av sz sc.flatten ok (fun u => (sc' u).flatten) k r mc ms) (hp : (sc ++ sr).Perm sg) (hpF : ∀ u, (sr ++ sc' u).Perm (sf u)) : XS l D cs y ws rm av sz sg.flatten ok (fun u => (sf u).flatten) k r mc ms := by
  refine MetFree.mono hM (fun _ _ q => li_preN hp q) (fun _ _ _ _ _ q => q) (fun a st o t hpre q => ?_)
  rcases q with ⟨⟨⟨x, u, h1, h2, h3⟩, h4⟩, L, h5, h6⟩ | ⟨q, h1, E, ce, L, ⟨u, h2, h3, h4⟩, h5, h6, h7, h8, h9, h10⟩
  · exact Or.inl ⟨⟨⟨x, u, h1, h2, li_post hp (hpF u) hpre.2.1 hpre.2.2.1 hpre.2.2.2.2.2.1 h4 h3⟩, li_F h4 (li_sub hp)⟩, L, h5, fun q hq => li_sub hp _ (h6 q hq)⟩
  · exact Or.inr ⟨q, h1, E, ce, L, ⟨u, h2, ⟨h3.1, li_post hp (hpF u) hpre.2.1 hpre.2.2.1 hpre.2.2.2.2.2.1 h4 h3.2⟩, li_F h4 (li_sub hp)⟩, h5, h6, h7, h8, h9, fun q hq => li_sub hp _ (h10 q hq)⟩
theorem li_XI {sc' sf : List va_W} (hM : XI l D cs y ws rm av sz sc.flatten sc'.flatten k r mc ms) (hp : (sc ++ sr).Perm sg) (hpF : (sr ++ sc').Perm sf) : XS l D cs y ws rm av sz sg.flatten (fun (_ : Unit) => True) (fun _ => sf.flatten) k r mc ms :=
  li_XS (sc' := fun _ => sc') (sf := fun _ => sf) (ow_XI hM) hp (fun _ => hpF)
theorem li_IJs {sc' sf : List va_W} (hM : MI l D cs y ws rm av sz sc.flatten sc'.flatten r) (hp : (sc ++ sr).Perm sg) (hpF : (sr ++ sc').Perm sf) : MJ l D cs y ws rm av sz sg.flatten (fun (_ : Unit) => True) (fun _ => sf.flatten) r 0 0 := li_IJ (li_MI hM hp hpF)
end LIFT
