/-! a call in a large world: the world is woven of the callee's cells and the rest, by a mask -/
def mrg : List Bool → va_W → va_W → va_W
  | [], r, c => r ++ c
  | true :: m, r, x :: c => x :: mrg m r c
  | true :: m, r, [] => mrg m r []
  | false :: m, y :: r, c => y :: mrg m r c
  | false :: m, [], c => mrg m [] c
def unz : List Bool → va_W → va_W
  | [], w => w
  | true :: m, _ :: w => unz m w
  | false :: m, x :: w => x :: unz m w
  | true :: _, [] => []
  | false :: _, [] => []
theorem mrg_perm : ∀ (m : List Bool) (r c : va_W), (mrg m r c).Perm (r ++ c)
  | [], r, c => List.Perm.refl _
  | true :: m, r, x :: c => ((mrg_perm m r c).cons x).trans List.perm_middle.symm
  | true :: m, r, [] => by rw [mrg]; exact mrg_perm m r []
  | false :: m, y :: r, c => (mrg_perm m r c).cons y
  | false :: m, [], c => by rw [mrg]; exact mrg_perm m [] c
theorem xP_iff {D : va_G} {cl : List vw_C} {ws : va_W} {H : Heap} : va_P D cl ws H ↔ ∀ q ∈ ws, va_at D cl q H :=
  ⟨fun h q hq => by
    obtain ⟨k, hk⟩ := List.mem_iff_getElem?.mp hq
    exact h k q hk, fun h k q hk => h q (List.mem_iff_getElem?.mpr ⟨k, hk⟩)⟩
theorem xD_iff {A : Nat → Prop} {ws : va_W} : va_D A ws ↔ ws.Pairwise (fun p q => p.1 ≠ q.1) ∧ ∀ q ∈ ws, A q.1 := by
  constructor
  · rintro ⟨h1, h2⟩
    refine ⟨List.pairwise_iff_getElem.mpr (fun i j hi hj hij he => ?_), fun q hq => ?_⟩
    · have h := h1 i j _ _ (List.getElem?_eq_getElem hi) (List.getElem?_eq_getElem hj) he
      omega
    · obtain ⟨k, hk⟩ := List.mem_iff_getElem?.mp hq
      exact h2 k q hk
  · rintro ⟨h1, h2⟩
    refine ⟨fun i j p q hi hj he => ?_, fun k q hk => h2 q (List.mem_iff_getElem?.mpr ⟨k, hk⟩)⟩
    obtain ⟨li, ei⟩ := List.getElem?_eq_some_iff.mp hi
    obtain ⟨lj, ej⟩ := List.getElem?_eq_some_iff.mp hj
    rcases Nat.lt_trichotomy i j with h | h | h
    · exact absurd (by rw [ei, ej]; exact he) (List.pairwise_iff_getElem.mp h1 i j li lj h)
    · exact h
    · exact absurd (by rw [ei, ej]; exact he.symm) (List.pairwise_iff_getElem.mp h1 j i lj li h)
theorem xP_perm {D : va_G} {cl : List vw_C} {ws ws' : va_W} {H : Heap} (h : va_P D cl ws H) (hp : ws.Perm ws') : va_P D cl ws' H :=
  xP_iff.mpr fun q hq => xP_iff.mp h q (hp.mem_iff.mpr hq)
theorem xD_perm {A : Nat → Prop} {ws ws' : va_W} (h : va_D A ws) (hp : ws.Perm ws') : va_D A ws' := by
  obtain ⟨h1, h2⟩ := xD_iff.mp h
  exact xD_iff.mpr ⟨(hp.pairwise_iff (fun h => Ne.symm h)).mp h1, fun q hq => h2 q (hp.mem_iff.mpr hq)⟩
theorem xnd_of : ∀ (l : List Nat), l.Nodup → va_nd l = true
  | [], _ => rfl
  | a :: l, h => by
    have h' := List.nodup_cons.mp h
    simp only [va_nd, Bool.and_eq_true, decide_eq_true_eq]
    exact ⟨h'.1, xnd_of l h'.2⟩
theorem xmR (wr wc : va_W) : (List.range wr.length).map (fun i => (wr ++ wc)[i]?) = wr.map some := by
  apply List.ext_getElem?
  intro k
  by_cases hk : k < wr.length
  · simp [List.getElem?_map, hk, List.getElem?_append_left]
  · simp [List.getElem?_map, hk]
theorem xmC (wr wc : va_W) : ((List.range wc.length).map (fun i => wr.length + i)).map (fun i => (wr ++ wc)[i]?) = wc.map some := by
  apply List.ext_getElem?
  intro k
  by_cases hk : k < wc.length
  · simp [List.getElem?_map, hk, List.getElem?_append_right]
  · simp [List.getElem?_map, hk]
theorem xmN (wr wc : va_W) : va_nd ((List.range wc.length).map (fun i => wr.length + i)) = true := by
  apply xnd_of
  have h : ((List.range wc.length).map (fun i => wr.length + i)).Pairwise (fun a b => a < b) := by
    rw [List.pairwise_map]
    exact List.pairwise_lt_range.imp (fun h => by omega)
  exact h.imp (fun h => by omega)
theorem xmD (wr wc : va_W) : ∀ i ∈ List.range wr.length, i ∉ (List.range wc.length).map (fun i => wr.length + i) := by
  intro i hi hc
  rw [List.mem_range] at hi
  obtain ⟨j, -, hj⟩ := List.mem_map.mp hc
  omega
theorem xpreVM {s : State} {H : Heap} {D : va_G} {tys : List (ClassId × FieldType)} {WD wc : va_W} {A : Nat → Prop} {As : List Value} {b ci : Nat} {q : vw_C} {fs : List Value} (hK : va_K D vwCl tys s) (hP : va_P D vwCl WD H) (hD : va_D A WD) (hN : xNN s) (mk : List Bool) (hM : WD = mrg mk (unz mk WD) wc) (q0 : Nat) (he : WD[q0]? = some (b, .inr (ci, fs))) (hc : vwCl[ci]? = some q) : PreV s H q.1 b (va_Pc (.ref b :: As) (xPc D tys wc H.size)) As := by
  have hp : WD.Perm (unz mk WD ++ wc) := List.Perm.trans (List.Perm.of_eq hM) (mrg_perm mk _ _)
  obtain ⟨k, hk⟩ := List.mem_iff_getElem?.mp (hp.mem_iff.mp (List.mem_iff_getElem?.mpr ⟨q0, he⟩))
  exact xpreV hK (xP_perm hP hp) (xD_perm hD hp) hN _ (xmC _ _) (xmN _ _) k hk hc
theorem xpreSLM {s : State} {H : Heap} {D : va_G} {tys : List (ClassId × FieldType)} {WD wc : va_W} {A : Nat → Prop} {As : List Value} {locs : List Loc} (hE : xEE A s s.heap) (hNc : xNc s) (hS : va_S A s.heap H locs) (hK : va_K D vwCl tys s) (hP : va_P D vwCl WD H) (hD : va_D A WD) (hN : xNN s) (mk : List Bool) (hM : WD = mrg mk (unz mk WD) wc) : PreS s H (va_Pc As (xPcL D tys wc H.size)) As := by
  have hp : WD.Perm (unz mk WD ++ wc) := List.Perm.trans (List.Perm.of_eq hM) (mrg_perm mk _ _)
  exact xpreSL hE hNc hS hK (xP_perm hP hp) (xD_perm hD hp) hN _ (xmC _ _) (xmN _ _)
section XCM
variable {p : Program} {l : Launch} {e : Env} {R : Room} {s : State} {m : MethodId} {args : Array Value} {below : List Frame} {meth : Method} {c : Code} {H : Heap} {locs : List Loc} {cells slots : Nat} {Q : State → Prop}
variable {pc : Nat} {ls : Array Slot} {rest st0 : List Value} {a : Array Value} {A0 : Nat → Prop} {H0 : Heap} {mc ms : Nat} {D : va_G} {tys : List (ClassId × FieldType)} {WD wc : va_W}
theorem xciM {S : Type} {post : Int32 → S → Prop} {w1 : S → va_W}
    (hr : va_Run p l e R s m args below meth c H locs cells slots mc ms (F0 m pc ls st0) rest (va_Qi post (fun u t => xB D tys (va_A wc H.size) (w1 u) t) (va_A wc H.size) a) (va_A wc H.size))
    (hP : va_P D vwCl WD H) (hD : va_D A0 WD) (hS : va_S A0 H0 H locs) (hA : ∀ q, H0.size ≤ q → A0 q) (mk : List Bool) (hM : WD = mrg mk (unz mk WD) wc)
    (kk : ∀ (r : Int32) (u : S) (H1 : Heap) (locs1 : List Loc), post r u → va_P D vwCl (mrg mk (unz mk WD) (w1 u)) H1 → va_D A0 (mrg mk (unz mk WD) (w1 u)) → va_S A0 H0 H1 locs1 → W p l e R s m args below meth c H1 locs1 (cells + mc) (slots + ms) Q (F0 m (pc + 3) ls (.int r :: rest))) : W p l e R s m args below meth c H locs cells slots Q (F0 m pc ls st0) := by
  have hp : WD.Perm (unz mk WD ++ wc) := List.Perm.trans (List.Perm.of_eq hM) (mrg_perm mk _ _)
  have hP := xP_perm hP hp
  have hD := xD_perm hD hp
  have hFc := va_free hD hS hA _ (xmC _ _)
  refine va_calli hr hS (fun q _ h => hFc q h) hFc (fun r u t H1 locs1 ht hvm hp hB hz hk hS => ?_)
  obtain ⟨hP1, hK1, hD1⟩ := hB
  rw [ht] at hP1
  obtain ⟨hP', hD'⟩ := va_join hP hD _ _ (xmC _ _) (xmR _ _) (xnd_of _ List.nodup_range) (xmD _ _) hk hFc hP1 hD1
  exact kk r u H1 locs1 hp (xP_perm hP' (mrg_perm mk _ _).symm) (xD_perm hD' (mrg_perm mk _ _).symm) hS
theorem xcvM {S : Type} {post : S → Prop} {w1 : S → va_W}
    (hr : va_Run p l e R s m args below meth c H locs cells slots mc ms (F0 m pc ls st0) rest (va_Qv post (fun u t => xB D tys (va_A wc H.size) (w1 u) t) (va_A wc H.size) a) (va_A wc H.size))
    (hP : va_P D vwCl WD H) (hD : va_D A0 WD) (hS : va_S A0 H0 H locs) (hA : ∀ q, H0.size ≤ q → A0 q) (mk : List Bool) (hM : WD = mrg mk (unz mk WD) wc)
    (kk : ∀ (u : S) (H1 : Heap) (locs1 : List Loc), post u → va_P D vwCl (mrg mk (unz mk WD) (w1 u)) H1 → va_D A0 (mrg mk (unz mk WD) (w1 u)) → va_S A0 H0 H1 locs1 → W p l e R s m args below meth c H1 locs1 (cells + mc) (slots + ms) Q (F0 m (pc + 3) ls rest)) : W p l e R s m args below meth c H locs cells slots Q (F0 m pc ls st0) := by
  have hp : WD.Perm (unz mk WD ++ wc) := List.Perm.trans (List.Perm.of_eq hM) (mrg_perm mk _ _)
  have hP := xP_perm hP hp
  have hD := xD_perm hD hp
  have hFc := va_free hD hS hA _ (xmC _ _)
  refine va_callv hr hS (fun q _ h => hFc q h) hFc (fun u t H1 locs1 ht hvm hp hB hz hk hS => ?_)
  obtain ⟨hP1, hK1, hD1⟩ := hB
  rw [ht] at hP1
  obtain ⟨hP', hD'⟩ := va_join hP hD _ _ (xmC _ _) (xmR _ _) (xnd_of _ List.nodup_range) (xmD _ _) hk hFc hP1 hD1
  exact kk u H1 locs1 hp (xP_perm hP' (mrg_perm mk _ _).symm) (xD_perm hD' (mrg_perm mk _ _).symm) hS
end XCM
